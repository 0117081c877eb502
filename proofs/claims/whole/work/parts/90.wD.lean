set_option maxRecDepth 20000 in
theorem w_X6_thrown {X : XX} {G : GG} {Z : ZZ} (hC : Cx X G RX6 cX6_thrown (some .int) 0 0 0 1) (hz : ZOk G Z) (hZ : ZM Z)  (M : Mem)  {r : Int32} {M' : Mem} (hf : f_X6_thrown  M = some (r, M')) : V X G Z M 0 0 (QN X G (QcI G Z r M') 0 0) 0 [(0, .ref (Z.1 27))] [] := by
  unfold f_X6_thrown at hf
  refine r_aload_n hC dX6_thrown_0 0 rfl ?_
  refine gf_X6_60 hC (z_1 hZ 27 (by decide) rfl) rfl dX6_thrown_1 ?_
  exact r_iret hf hC (by decide) (by decide) dX6_thrown_4
set_option maxRecDepth 20000 in
theorem c_X6_thrown {l : Launch} (hl : l.stackTraces = false) {G : GG} {Z : ZZ} (hz : ZOk G Z) (hZ : ZM Z)  (M : Mem)  (r : Int32) (M' : Mem) (hf : f_X6_thrown  M = some (r, M')) : CN (QcI G Z r M') l G Z yX6_thrown cX6_thrown 1 (some .int) 0 [.ref (Z.1 27)] M :=
  CN.of [(0, .ref (Z.1 27))] hl (by decide +kernel) (Nat.le_of_ble_eq_true rfl) rfl (fun _ hC => w_X6_thrown hC hz hZ  M  hf)
set_option maxRecDepth 20000 in
theorem w_X6_refused {X : XX} {G : GG} {Z : ZZ} (hC : Cx X G RX6 cX6_refused (some .boolean) 0 0 0 2) (hz : ZOk G Z) (hZ : ZM Z) (v1 : Int32) (M : Mem)  {r : Int32} {M' : Mem} (hf : f_X6_refused v1 M = some (r, M')) : V X G Z M 0 0 (QN X G (QcI G Z r M') 0 0) 0 [(0, .ref (Z.1 27)), (1, .int v1)] [] := by
  unfold f_X6_refused at hf
  refine r_aload_n hC dX6_refused_0 0 rfl ?_
  refine r_iload_n hC dX6_refused_1 1 rfl ?_
  refine pf_X6_60 hC hz (z_1 hZ 27 (by decide) rfl) rfl dX6_refused_2 ?_
  refine r_iload_n hC dX6_refused_5 1 rfl ?_
  refine r_if_le 13 hC dX6_refused_6 (by decide) (fun h => ?_) (fun h => ?_)
  · have hf := if_T hf h
    refine r_iconst (v := 0) hC dX6_refused_13 rfl ?_
    exact r_zret hf hC rfl rfl (by decide) (by decide) dX6_refused_14
  · have hf := if_F hf h
    refine r_iconst (v := 1) hC dX6_refused_9 rfl ?_
    refine r_goto 14 hC dX6_refused_10 (by decide) ?_
    exact r_zret hf hC rfl rfl (by decide) (by decide) dX6_refused_14
set_option maxRecDepth 20000 in
theorem c_X6_refused {l : Launch} (hl : l.stackTraces = false) {G : GG} {Z : ZZ} (hz : ZOk G Z) (hZ : ZM Z) (v1 : Int32) (M : Mem)  (r : Int32) (M' : Mem) (hf : f_X6_refused v1 M = some (r, M')) : CN (QcI G Z r M') l G Z yX6_refused cX6_refused 2 (some .boolean) 0 [.ref (Z.1 27), .int v1] M :=
  CN.of [(0, .ref (Z.1 27)), (1, .int v1)] hl (by decide +kernel) (Nat.le_of_ble_eq_true rfl) rfl (fun _ hC => w_X6_refused hC hz hZ v1 M  hf)
set_option maxRecDepth 20000 in
theorem w_X6_in {X : XX} {G : GG} {Z : ZZ} (hC : Cx X G RX6 cX6_in (some .boolean) 0 0 0 6) (hz : ZOk G Z) (hZ : ZM Z) (w0 : Int64) (w2 : Int64) (w4 : Int64) (M : Mem)  {r : Int32} {M' : Mem} (hf : f_X6_in w0 w2 w4 M = some (r, M')) : V X G Z M 0 0 (QN X G (QcI G Z r M') 0 0) 0 [(0, .long w0), (2, .long w2), (4, .long w4)] [] := by
  unfold f_X6_in at hf
  refine r_lload_n hC dX6_in_0 0 rfl ?_
  refine r_lload_n hC dX6_in_1 1 rfl ?_
  refine r_lcmp hC dX6_in_2 ?_
  refine r_if_lt 17 hC dX6_in_3 (by decide) (fun h => ?_) (fun h => ?_)
  · have hf := if_T hf h
    refine r_iconst (v := 0) hC dX6_in_17 rfl ?_
    exact r_zret hf hC rfl rfl (by decide) (by decide) dX6_in_18
  · have hf := if_F hf h
    refine r_lload_n hC dX6_in_6 0 rfl ?_
    refine r_lload hC dX6_in_7 2 rfl ?_
    refine r_lcmp hC dX6_in_9 ?_
    refine r_if_gt 17 hC dX6_in_10 (by decide) (fun h => ?_) (fun h => ?_)
    · have hf := if_T hf h
      refine r_iconst (v := 0) hC dX6_in_17 rfl ?_
      exact r_zret hf hC rfl rfl (by decide) (by decide) dX6_in_18
    · have hf := if_F hf h
      refine r_iconst (v := 1) hC dX6_in_13 rfl ?_
      refine r_goto 18 hC dX6_in_14 (by decide) ?_
      exact r_zret hf hC rfl rfl (by decide) (by decide) dX6_in_18
set_option maxRecDepth 20000 in
theorem c_X6_in {l : Launch} (hl : l.stackTraces = false) {G : GG} {Z : ZZ} (hz : ZOk G Z) (hZ : ZM Z) (w0 : Int64) (w2 : Int64) (w4 : Int64) (M : Mem)  (r : Int32) (M' : Mem) (hf : f_X6_in w0 w2 w4 M = some (r, M')) : CN (QcI G Z r M') l G Z yX6_in cX6_in 6 (some .boolean) 0 [.long w0, .long w2, .long w4] M :=
  CN.of [(0, .long w0), (2, .long w2), (4, .long w4)] hl (by decide +kernel) (Nat.le_of_ble_eq_true rfl) rfl (fun _ hC => w_X6_in hC hz hZ w0 w2 w4 M  hf)
set_option maxRecDepth 20000 in
theorem w_X6_copyPage_b3 {X : XX} {G : GG} {Z : ZZ} {r : Unit} {M' : Mem} (hC : Cx X G RX6 cX6_copyPage none 0 0 0 5) (hz : ZOk G Z) (hZ : ZM Z) (r0 : Nat) (v1 : Int32) (r2 : Nat) (v3 : Int32) (hr0 : ArI r0) (hr2 : ArI r2) (k3 : Int32 → Mem → Option (Unit × Mem)) (hk3 : ∀ (u4 : Int32) (M : Mem), k3 u4 M = some (r, M') → V X G Z M 0 0 (QN X G (QcV G Z r M') 0 0) 3 [(0, .ref (Z.1 r0)), (1, .int v1), (2, .ref (Z.1 r2)), (3, .int v3), (4, .int u4)] []) (v4 : Int32) (M : Mem) (hf : f_X6_copyPage_b3 r0 v1 r2 v3 k3 v4 M = some (r, M')) : V X G Z M 0 0 (QN X G (QcV G Z r M') 0 0) 3 [(0, .ref (Z.1 r0)), (1, .int v1), (2, .ref (Z.1 r2)), (3, .int v3), (4, .int v4)] [] := by
  unfold f_X6_copyPage_b3 at hf
  refine r_iload hC dX6_copyPage_3 4 rfl ?_
  refine r_bipush (v := 72) hC dX6_copyPage_5 rfl ?_
  refine r_icmp_ge 28 hC dX6_copyPage_7 (by decide) (fun h => ?_) (fun h => ?_)
  · have hf := if_T hf h
    exact r_vret hf hC (by decide) (by decide) dX6_copyPage_28
  · have hf := if_F hf h
    refine r_aload_n hC dX6_copyPage_10 2 rfl ?_
    refine r_iload_n hC dX6_copyPage_11 3 rfl ?_
    refine r_iload hC dX6_copyPage_12 4 rfl ?_
    refine r_iadd hC dX6_copyPage_14 ?_
    refine r_aload_n hC dX6_copyPage_15 0 rfl ?_
    refine r_iload_n hC dX6_copyPage_16 1 rfl ?_
    refine r_iload hC dX6_copyPage_17 4 rfl ?_
    refine r_iadd hC dX6_copyPage_19 ?_
    have hin := if_K hf
    have hf := if_V hf
    refine r_iald hC (z_r hZ hr0) (inb_vp hin) dX6_copyPage_20 ?_
    have hin := if_K hf
    have hf := if_V hf
    refine r_iast hC hz (z_r hZ hr2) (inb_vp hin) dX6_copyPage_21 ?_
    refine r_iinc (v := v4 + 1) (L' := [(4, .int (v4 + 1)), (0, .ref (Z.1 r0)), (1, .int v1), (2, .ref (Z.1 r2)), (3, .int v3)]) hC dX6_copyPage_22 4 rfl rfl (by decide) rfl ?_
    refine r_goto 3 hC dX6_copyPage_25 (by decide) ?_
    refine r_L [1, 2, 3, 4, 0] rfl ?_
    exact hk3 _ _ hf
set_option maxRecDepth 20000 in
theorem w_X6_copyPage {X : XX} {G : GG} {Z : ZZ} (hC : Cx X G RX6 cX6_copyPage none 0 0 0 5) (hz : ZOk G Z) (hZ : ZM Z) (r0 : Nat) (v1 : Int32) (r2 : Nat) (v3 : Int32) (M : Mem) (hr0 : ArI r0) (hr2 : ArI r2) {r : Unit} {M' : Mem} (hf : f_X6_copyPage r0 v1 r2 v3 M = some (r, M')) : V X G Z M 0 0 (QN X G (QcV G Z r M') 0 0) 0 [(0, .ref (Z.1 r0)), (1, .int v1), (2, .ref (Z.1 r2)), (3, .int v3)] [] := by
  unfold f_X6_copyPage at hf
  refine r_iconst (v := 0) hC dX6_copyPage_0 rfl ?_
  refine r_istore (L' := [(4, .int 0), (0, .ref (Z.1 r0)), (1, .int v1), (2, .ref (Z.1 r2)), (3, .int v3)]) hC dX6_copyPage_1 (by decide) rfl ?_
  refine r_L [1, 2, 3, 4, 0] rfl ?_
  exact lq1_ind (P := fun (u4 : Int32) (M : Mem) => V X G Z M 0 0 (QN X G (QcV G Z r M') 0 0) 3 [(0, .ref (Z.1 r0)), (1, .int v1), (2, .ref (Z.1 r2)), (3, .int v3), (4, .int u4)] []) (fun kk hkk u4 M hf => w_X6_copyPage_b3 hC hz hZ r0 v1 r2 v3 hr0 hr2 kk hkk u4 M hf) _ _ _ hf
set_option maxRecDepth 20000 in
theorem c_X6_copyPage {l : Launch} (hl : l.stackTraces = false) {G : GG} {Z : ZZ} (hz : ZOk G Z) (hZ : ZM Z) (r0 : Nat) (v1 : Int32) (r2 : Nat) (v3 : Int32) (M : Mem) (hr0 : ArI r0) (hr2 : ArI r2) (r : Unit) (M' : Mem) (hf : f_X6_copyPage r0 v1 r2 v3 M = some (r, M')) : CN (QcV G Z r M') l G Z yX6_copyPage cX6_copyPage 5 none 0 [.ref (Z.1 r0), .int v1, .ref (Z.1 r2), .int v3] M :=
  CN.of [(0, .ref (Z.1 r0)), (1, .int v1), (2, .ref (Z.1 r2)), (3, .int v3)] hl (by decide +kernel) (Nat.le_of_ble_eq_true rfl) rfl (fun _ hC => w_X6_copyPage hC hz hZ r0 v1 r2 v3 M hr0 hr2 hf)
set_option maxRecDepth 20000 in
theorem w_X6_begin_b29 {X : XX} {G : GG} {Z : ZZ} {r : Unit} {M' : Mem} (hC : Cx X G RX6 cX6_begin none 0 0 0 2) (hz : ZOk G Z) (hZ : ZM Z) (r0 : Nat) (hr0 : ArI r0) (k29 : Int32 → Mem → Option (Unit × Mem)) (hk29 : ∀ (u1 : Int32) (M : Mem), k29 u1 M = some (r, M') → V X G Z M 0 0 (QN X G (QcV G Z r M') 0 0) 29 [(0, .ref (Z.1 r0)), (1, .int u1)] []) (v1 : Int32) (M : Mem) (hf : f_X6_begin_b29 r0 k29 v1 M = some (r, M')) : V X G Z M 0 0 (QN X G (QcV G Z r M') 0 0) 29 [(0, .ref (Z.1 r0)), (1, .int v1)] [] := by
  unfold f_X6_begin_b29 at hf
  refine r_iload_n hC dX6_begin_29 1 rfl ?_
  refine r_bipush (v := 72) hC dX6_begin_30 rfl ?_
  refine r_icmp_ge 46 hC dX6_begin_32 (by decide) (fun h => ?_) (fun h => ?_)
  · have hf := if_T hf h
    exact r_vret hf hC (by decide) (by decide) dX6_begin_46
  · have hf := if_F hf h
    refine r_aload_n hC dX6_begin_35 0 rfl ?_
    refine r_iload_n hC dX6_begin_36 1 rfl ?_
    refine r_bipush (v := (-9)) hC dX6_begin_37 rfl ?_
    have hin := if_K hf
    have hf := if_V hf
    refine r_iast hC hz (z_r hZ hr0) (inb_vp hin) dX6_begin_39 ?_
    refine r_iinc (v := v1 + 1) (L' := [(1, .int (v1 + 1)), (0, .ref (Z.1 r0))]) hC dX6_begin_40 1 rfl rfl (by decide) rfl ?_
    refine r_goto 29 hC dX6_begin_43 (by decide) ?_
    refine r_L [1, 0] rfl ?_
    exact hk29 _ _ hf
set_option maxRecDepth 20000 in
theorem w_X6_begin {X : XX} {G : GG} {Z : ZZ} (hC : Cx X G RX6 cX6_begin none 0 0 0 2) (hz : ZOk G Z) (hZ : ZM Z) (r0 : Nat) (M : Mem) (hr0 : ArI r0) {r : Unit} {M' : Mem} (hf : f_X6_begin r0 M = some (r, M')) : V X G Z M 0 0 (QN X G (QcV G Z r M') 0 0) 0 [(0, .ref (Z.1 r0))] [] := by
  unfold f_X6_begin at hf
  refine r_aload_n hC dX6_begin_0 0 rfl ?_
  refine r_iconst (v := 0) hC dX6_begin_1 rfl ?_
  refine r_bipush (v := 12) hC dX6_begin_2 rfl ?_
  have hin := if_K hf
  have hf := if_V hf
  refine r_iast hC hz (z_r hZ hr0) (inb_vp hin) dX6_begin_4 ?_
  refine r_aload_n hC dX6_begin_5 0 rfl ?_
  refine r_iconst (v := 1) hC dX6_begin_6 rfl ?_
  refine r_bipush (v := 12) hC dX6_begin_7 rfl ?_
  have hin := if_K hf
  have hf := if_V hf
  refine r_iast hC hz (z_r hZ hr0) (inb_vp hin) dX6_begin_9 ?_
  refine r_aload_n hC dX6_begin_10 0 rfl ?_
  refine r_iconst (v := 2) hC dX6_begin_11 rfl ?_
  refine r_iconst (v := 5) hC dX6_begin_12 rfl ?_
  have hin := if_K hf
  have hf := if_V hf
  refine r_iast hC hz (z_r hZ hr0) (inb_vp hin) dX6_begin_13 ?_
  refine r_aload_n hC dX6_begin_14 0 rfl ?_
  refine r_iconst (v := 3) hC dX6_begin_15 rfl ?_
  refine r_iconst (v := 3) hC dX6_begin_16 rfl ?_
  have hin := if_K hf
  have hf := if_V hf
  refine r_iast hC hz (z_r hZ hr0) (inb_vp hin) dX6_begin_17 ?_
  refine r_aload_n hC dX6_begin_18 0 rfl ?_
  refine r_iconst (v := 4) hC dX6_begin_19 rfl ?_
  refine r_iconst (v := 1) hC dX6_begin_20 rfl ?_
  have hin := if_K hf
  have hf := if_V hf
  refine r_iast hC hz (z_r hZ hr0) (inb_vp hin) dX6_begin_21 ?_
  refine r_aload_n hC dX6_begin_22 0 rfl ?_
  refine r_iconst (v := 5) hC dX6_begin_23 rfl ?_
  refine r_iconst (v := 0) hC dX6_begin_24 rfl ?_
  have hin := if_K hf
  have hf := if_V hf
  refine r_iast hC hz (z_r hZ hr0) (inb_vp hin) dX6_begin_25 ?_
  refine r_bipush (v := 8) hC dX6_begin_26 rfl ?_
  refine r_istore_n (L' := [(1, .int 8), (0, .ref (Z.1 r0))]) hC dX6_begin_28 (by decide) rfl ?_
  refine r_L [1, 0] rfl ?_
  exact lq1_ind (P := fun (u1 : Int32) (M : Mem) => V X G Z M 0 0 (QN X G (QcV G Z r M') 0 0) 29 [(0, .ref (Z.1 r0)), (1, .int u1)] []) (fun kk hkk u1 M hf => w_X6_begin_b29 hC hz hZ r0 hr0 kk hkk u1 M hf) _ _ _ hf
set_option maxRecDepth 20000 in
theorem c_X6_begin {l : Launch} (hl : l.stackTraces = false) {G : GG} {Z : ZZ} (hz : ZOk G Z) (hZ : ZM Z) (r0 : Nat) (M : Mem) (hr0 : ArI r0) (r : Unit) (M' : Mem) (hf : f_X6_begin r0 M = some (r, M')) : CN (QcV G Z r M') l G Z yX6_begin cX6_begin 2 none 0 [.ref (Z.1 r0)] M :=
  CN.of [(0, .ref (Z.1 r0))] hl (by decide +kernel) (Nat.le_of_ble_eq_true rfl) rfl (fun _ hC => w_X6_begin hC hz hZ r0 M hr0 hf)
set_option maxRecDepth 20000 in
theorem w_X6_at {X : XX} {G : GG} {Z : ZZ} (hC : Cx X G RX6 cX6_at (some .int) 0 0 0 2) (hz : ZOk G Z) (hZ : ZM Z) (v0 : Int32) (v1 : Int32) (M : Mem)  {r : Int32} {M' : Mem} (hf : f_X6_at v0 v1 M = some (r, M')) : V X G Z M 0 0 (QN X G (QcI G Z r M') 0 0) 0 [(0, .int v0), (1, .int v1)] [] := by
  unfold f_X6_at at hf
  refine r_bipush (v := 16) hC dX6_at_0 rfl ?_
  refine r_iload_n hC dX6_at_2 0 rfl ?_
  refine r_imul hC dX6_at_3 ?_
  refine r_iload_n hC dX6_at_4 1 rfl ?_
  refine r_iadd hC dX6_at_5 ?_
  exact r_iret hf hC (by decide) (by decide) dX6_at_6
set_option maxRecDepth 20000 in
theorem c_X6_at {l : Launch} (hl : l.stackTraces = false) {G : GG} {Z : ZZ} (hz : ZOk G Z) (hZ : ZM Z) (v0 : Int32) (v1 : Int32) (M : Mem)  (r : Int32) (M' : Mem) (hf : f_X6_at v0 v1 M = some (r, M')) : CN (QcI G Z r M') l G Z yX6_at cX6_at 2 (some .int) 0 [.int v0, .int v1] M :=
  CN.of [(0, .int v0), (1, .int v1)] hl (by decide +kernel) (Nat.le_of_ble_eq_true rfl) rfl (fun _ hC => w_X6_at hC hz hZ v0 v1 M  hf)
set_option maxRecDepth 20000 in
theorem w_X6_isSetting_b41 {X : XX} {G : GG} {Z : ZZ} {r : Int32} {M' : Mem} (hC : Cx X G RX6 cX6_isSetting (some .boolean) 1 0 0 4) (hz : ZOk G Z) (hZ : ZM Z) (v0 : Int32) (v1 : Int32) (v2 : Int32) (s0 : Int32) (M : Mem) (hf : f_X6_isSetting_b41 v0 v1 v2 s0 M = some (r, M')) : V X G Z M 0 0 (QN X G (QcI G Z r M') 0 0) 41 [(0, .int v0), (1, .int v1), (2, .int v2)] [.int s0] := by
  unfold f_X6_isSetting_b41 at hf
  refine r_istore_n (L' := [(3, .int s0), (0, .int v0), (1, .int v1), (2, .int v2)]) hC dX6_isSetting_41 (by decide) rfl ?_
  refine r_iload_n hC dX6_isSetting_42 1 rfl ?_
  refine r_i2l hC dX6_isSetting_43 ?_
  refine r_lconst (v := 0) hC dX6_isSetting_44 rfl ?_
  refine r_ldc2 (v := 5) hC dX6_isSetting_45 kw_X6_64 ?_
  refine r_callSI [] (fun r M1 h => c_X6_in (cx_st hC) hz hZ (Int32.toInt64 v0) 0 5 _  r M1 h) hf cs_X6_66 hC  rfl rfl (by decide) (by decide) (Nat.le_of_ble_eq_true rfl) (by decide) (by decide) dX6_isSetting_48 (fun x1 M2 hf => ?_)
  refine r_if_eq 70 hC dX6_isSetting_51 (by decide) (fun h => ?_) (fun h => ?_)
  · have hf := if_T hf h
    refine r_iconst (v := 0) hC dX6_isSetting_70 rfl ?_
    exact r_zret hf hC rfl rfl (by decide) (by decide) dX6_isSetting_71
  · have hf := if_F hf h
    refine r_iload_n hC dX6_isSetting_54 2 rfl ?_
    refine r_i2l hC dX6_isSetting_55 ?_
    refine r_iload_n hC dX6_isSetting_56 3 rfl ?_
    refine r_i2l hC dX6_isSetting_57 ?_
    refine r_iload_n hC dX6_isSetting_58 0 rfl ?_
    refine r_i2l hC dX6_isSetting_59 ?_
    refine r_callSI [] (fun r M1 h => c_X6_in (cx_st hC) hz hZ (Int32.toInt64 v1) (Int32.toInt64 v2) (Int32.toInt64 s0) _  r M1 h) hf cs_X6_66 hC  rfl rfl (by decide) (by decide) (Nat.le_of_ble_eq_true rfl) (by decide) (by decide) dX6_isSetting_60 (fun x3 M4 hf => ?_)
    refine r_if_eq 70 hC dX6_isSetting_63 (by decide) (fun h => ?_) (fun h => ?_)
    · have hf := if_T hf h
      refine r_iconst (v := 0) hC dX6_isSetting_70 rfl ?_
      exact r_zret hf hC rfl rfl (by decide) (by decide) dX6_isSetting_71
    · have hf := if_F hf h
      refine r_iconst (v := 1) hC dX6_isSetting_66 rfl ?_
      refine r_goto 71 hC dX6_isSetting_67 (by decide) ?_
      exact r_zret hf hC rfl rfl (by decide) (by decide) dX6_isSetting_71
set_option maxRecDepth 20000 in
theorem w_X6_isSetting_b10 {X : XX} {G : GG} {Z : ZZ} {r : Int32} {M' : Mem} (hC : Cx X G RX6 cX6_isSetting (some .boolean) 1 0 0 4) (hz : ZOk G Z) (hZ : ZM Z) (v0 : Int32) (v1 : Int32) (s0 : Int32) (M : Mem) (hf : f_X6_isSetting_b10 v0 v1 s0 M = some (r, M')) : V X G Z M 0 0 (QN X G (QcI G Z r M') 0 0) 10 [(0, .int v0), (1, .int v1)] [.int s0] := by
  unfold f_X6_isSetting_b10 at hf
  refine r_istore_n (L' := [(2, .int s0), (0, .int v0), (1, .int v1)]) hC dX6_isSetting_10 (by decide) rfl ?_
  refine r_iload_n hC dX6_isSetting_11 1 rfl ?_
  refine r_iconst (v := 2) hC dX6_isSetting_12 rfl ?_
  refine r_icmp_ge 21 hC dX6_isSetting_13 (by decide) (fun h => ?_) (fun h => ?_)
  · have hf := if_T hf h
    refine r_iload_n hC dX6_isSetting_21 1 rfl ?_
    refine r_iconst (v := 2) hC dX6_isSetting_22 rfl ?_
    refine r_icmp_ne 30 hC dX6_isSetting_23 (by decide) (fun h => ?_) (fun h => ?_)
    · have hf := if_F hf h
      refine r_iload_n hC dX6_isSetting_30 1 rfl ?_
      refine r_iconst (v := 3) hC dX6_isSetting_31 rfl ?_
      refine r_icmp_ne 40 hC dX6_isSetting_32 (by decide) (fun h => ?_) (fun h => ?_)
      · have hf := if_F hf h
        refine r_iconst (v := 1) hC dX6_isSetting_40 rfl ?_
        refine r_L [1, 2, 0] rfl ?_
        exact w_X6_isSetting_b41 hC hz hZ v0 v1 s0 1 _ hf
      · have hf := if_T hf h
        refine r_bipush (v := 9) hC dX6_isSetting_35 rfl ?_
        refine r_goto 41 hC dX6_isSetting_37 (by decide) ?_
        refine r_L [1, 2, 0] rfl ?_
        exact w_X6_isSetting_b41 hC hz hZ v0 v1 s0 9 _ hf
    · have hf := if_T hf h
      refine r_iconst (v := 5) hC dX6_isSetting_26 rfl ?_
      refine r_goto 41 hC dX6_isSetting_27 (by decide) ?_
      refine r_L [1, 2, 0] rfl ?_
      exact w_X6_isSetting_b41 hC hz hZ v0 v1 s0 5 _ hf
  · have hf := if_F hf h
    refine r_bipush (v := 24) hC dX6_isSetting_16 rfl ?_
    refine r_goto 41 hC dX6_isSetting_18 (by decide) ?_
    refine r_L [1, 2, 0] rfl ?_
    exact w_X6_isSetting_b41 hC hz hZ v0 v1 s0 24 _ hf
set_option maxRecDepth 20000 in
theorem w_X6_isSetting {X : XX} {G : GG} {Z : ZZ} (hC : Cx X G RX6 cX6_isSetting (some .boolean) 1 0 0 4) (hz : ZOk G Z) (hZ : ZM Z) (v0 : Int32) (v1 : Int32) (M : Mem)  {r : Int32} {M' : Mem} (hf : f_X6_isSetting v0 v1 M = some (r, M')) : V X G Z M 0 0 (QN X G (QcI G Z r M') 0 0) 0 [(0, .int v0), (1, .int v1)] [] := by
  unfold f_X6_isSetting at hf
  refine r_iload_n hC dX6_isSetting_0 0 rfl ?_
  refine r_iconst (v := 3) hC dX6_isSetting_1 rfl ?_
  refine r_icmp_ge 9 hC dX6_isSetting_2 (by decide) (fun h => ?_) (fun h => ?_)
  · have hf := if_T hf h
    refine r_iconst (v := 0) hC dX6_isSetting_9 rfl ?_
    exact w_X6_isSetting_b10 hC hz hZ v0 v1 0 _ hf
  · have hf := if_F hf h
    refine r_iconst (v := 1) hC dX6_isSetting_5 rfl ?_
    refine r_goto 10 hC dX6_isSetting_6 (by decide) ?_
    exact w_X6_isSetting_b10 hC hz hZ v0 v1 1 _ hf
set_option maxRecDepth 20000 in
theorem c_X6_isSetting {l : Launch} (hl : l.stackTraces = false) {G : GG} {Z : ZZ} (hz : ZOk G Z) (hZ : ZM Z) (v0 : Int32) (v1 : Int32) (M : Mem)  (r : Int32) (M' : Mem) (hf : f_X6_isSetting v0 v1 M = some (r, M')) : CN (QcI G Z r M') l G Z yX6_isSetting cX6_isSetting 4 (some .boolean) 1 [.int v0, .int v1] M :=
  CN.of [(0, .int v0), (1, .int v1)] hl (by decide +kernel) (Nat.le_of_ble_eq_true rfl) rfl (fun _ hC => w_X6_isSetting hC hz hZ v0 v1 M  hf)
set_option maxRecDepth 20000 in
theorem w_X6_isHeld {X : XX} {G : GG} {Z : ZZ} (hC : Cx X G RX6 cX6_isHeld (some .boolean) 1 0 0 4) (hz : ZOk G Z) (hZ : ZM Z) (r1 : Nat) (v2 : Int32) (v3 : Int32) (M : Mem) (hr1 : ArI r1) {r : Int32} {M' : Mem} (hf : f_X6_isHeld r1 v2 v3 M = some (r, M')) : V X G Z M 0 0 (QN X G (QcI G Z r M') 0 0) 0 [(0, .ref (Z.1 27)), (1, .ref (Z.1 r1)), (2, .int v2), (3, .int v3)] [] := by
  unfold f_X6_isHeld at hf
  refine r_aload_n hC dX6_isHeld_0 1 rfl ?_
  refine r_bipush (v := 8) hC dX6_isHeld_1 rfl ?_
  refine r_iload_n hC dX6_isHeld_3 2 rfl ?_
  refine r_iload_n hC dX6_isHeld_4 3 rfl ?_
  refine r_callSI [.int 8, .ref (Z.1 r1)] (fun r M1 h => c_X6_at (cx_st hC) hz hZ v2 v3 _  r M1 h) hf cs_X6_70 hC  rfl rfl (by decide) (by decide) (Nat.le_of_ble_eq_true rfl) (by decide) (by decide) dX6_isHeld_5 (fun x1 M2 hf => ?_)
  refine r_iadd hC dX6_isHeld_8 ?_
  have hin := if_K hf
  have hf := if_V hf
  refine r_iald hC (z_r hZ hr1) (inb_vp hin) dX6_isHeld_9 ?_
  refine r_bipush (v := 99) hC dX6_isHeld_10 rfl ?_
  refine r_icmp_ne 19 hC dX6_isHeld_12 (by decide) (fun h => ?_) (fun h => ?_)
  · have hf := if_F hf h
    refine r_iconst (v := 0) hC dX6_isHeld_19 rfl ?_
    exact r_zret hf hC rfl rfl (by decide) (by decide) dX6_isHeld_20
  · have hf := if_T hf h
    refine r_iconst (v := 1) hC dX6_isHeld_15 rfl ?_
    refine r_goto 20 hC dX6_isHeld_16 (by decide) ?_
    exact r_zret hf hC rfl rfl (by decide) (by decide) dX6_isHeld_20
set_option maxRecDepth 20000 in
theorem c_X6_isHeld {l : Launch} (hl : l.stackTraces = false) {G : GG} {Z : ZZ} (hz : ZOk G Z) (hZ : ZM Z) (r1 : Nat) (v2 : Int32) (v3 : Int32) (M : Mem) (hr1 : ArI r1) (r : Int32) (M' : Mem) (hf : f_X6_isHeld r1 v2 v3 M = some (r, M')) : CN (QcI G Z r M') l G Z yX6_isHeld cX6_isHeld 4 (some .boolean) 1 [.ref (Z.1 27), .ref (Z.1 r1), .int v2, .int v3] M :=
  CN.of [(0, .ref (Z.1 27)), (1, .ref (Z.1 r1)), (2, .int v2), (3, .int v3)] hl (by decide +kernel) (Nat.le_of_ble_eq_true rfl) rfl (fun _ hC => w_X6_isHeld hC hz hZ r1 v2 v3 M hr1 hf)
set_option maxRecDepth 20000 in
theorem w_X6_laySounds_b51 {X : XX} {G : GG} {Z : ZZ} {r : Unit} {M' : Mem} (hC : Cx X G RX6 cX6_laySounds none 2 0 0 5) (hz : ZOk G Z) (hZ : ZM Z) (r1 : Nat) (v2 : Int32) (v4 : Int32) (hr1 : ArI r1) (k2 : Int32 → Mem → Option (Unit × Mem)) (k16 : Int32 → Int32 → Mem → Option (Unit × Mem)) (hk2 : ∀ (u2 : Int32) (M : Mem), k2 u2 M = some (r, M') → V X G Z M 0 0 (QN X G (QcV G Z r M') 0 0) 2 [(0, .ref (Z.1 27)), (1, .ref (Z.1 r1)), (2, .int u2)] []) (hk16 : ∀ (u3 : Int32) (u4 : Int32) (M : Mem), k16 u3 u4 M = some (r, M') → V X G Z M 0 0 (QN X G (QcV G Z r M') 0 0) 16 [(0, .ref (Z.1 27)), (1, .ref (Z.1 r1)), (2, .int v2), (3, .int u3), (4, .int u4)] []) (s0 : Int32) (M : Mem) (hf : f_X6_laySounds_b51 r1 v2 v4 k2 k16 s0 M = some (r, M')) : V X G Z M 0 0 (QN X G (QcV G Z r M') 0 0) 51 [(0, .ref (Z.1 27)), (1, .ref (Z.1 r1)), (2, .int v2), (4, .int v4)] [.int s0] := by
  unfold f_X6_laySounds_b51 at hf
  refine r_istore_n (L' := [(3, .int s0), (0, .ref (Z.1 27)), (1, .ref (Z.1 r1)), (2, .int v2), (4, .int v4)]) hC dX6_laySounds_51 (by decide) rfl ?_
  refine r_aload_n hC dX6_laySounds_52 1 rfl ?_
  refine gf_X6_35 hC (z_1 hZ 27 (by decide) rfl) rfl dX6_laySounds_53 ?_
  refine r_iload_n hC dX6_laySounds_56 3 rfl ?_
  refine r_iload hC dX6_laySounds_57 4 rfl ?_
  refine r_callSI [.ref (Z.1 36)] (fun r M1 h => c_X6_at (cx_st hC) hz hZ v2 v4 _  r M1 h) hf cs_X6_70 hC  rfl rfl (by decide) (by decide) (Nat.le_of_ble_eq_true rfl) (by decide) (by decide) dX6_laySounds_59 (fun x5 M6 hf => ?_)
  refine r_iload_n hC dX6_laySounds_62 0 rfl ?_
  have hin := if_K hf
  have hf := if_V hf
  refine r_iast hC hz (z_1 hZ 36 (by decide) rfl) (inb_vp hin) dX6_laySounds_63 ?_
  refine r_iinc (v := v4 + 1) (L' := [(4, .int (v4 + 1)), (3, .int s0), (0, .ref (Z.1 27)), (1, .ref (Z.1 r1)), (2, .int v2)]) hC dX6_laySounds_64 4 rfl rfl (by decide) rfl ?_
  refine r_goto 16 hC dX6_laySounds_67 (by decide) ?_
  refine r_L [2, 3, 4, 1, 0] rfl ?_
  exact hk16 _ _ _ hf
set_option maxRecDepth 20000 in
theorem w_X6_laySounds_b16 {X : XX} {G : GG} {Z : ZZ} {r : Unit} {M' : Mem} (hC : Cx X G RX6 cX6_laySounds none 2 0 0 5) (hz : ZOk G Z) (hZ : ZM Z) (r1 : Nat) (v2 : Int32) (hr1 : ArI r1) (k2 : Int32 → Mem → Option (Unit × Mem)) (hk2 : ∀ (u2 : Int32) (M : Mem), k2 u2 M = some (r, M') → V X G Z M 0 0 (QN X G (QcV G Z r M') 0 0) 2 [(0, .ref (Z.1 27)), (1, .ref (Z.1 r1)), (2, .int u2)] []) (k16 : Int32 → Int32 → Mem → Option (Unit × Mem)) (hk16 : ∀ (u3 : Int32) (u4 : Int32) (M : Mem), k16 u3 u4 M = some (r, M') → V X G Z M 0 0 (QN X G (QcV G Z r M') 0 0) 16 [(0, .ref (Z.1 27)), (1, .ref (Z.1 r1)), (2, .int v2), (3, .int u3), (4, .int u4)] []) (v3 : Int32) (v4 : Int32) (M : Mem) (hf : f_X6_laySounds_b16 r1 v2 k2 k16 v3 v4 M = some (r, M')) : V X G Z M 0 0 (QN X G (QcV G Z r M') 0 0) 16 [(0, .ref (Z.1 27)), (1, .ref (Z.1 r1)), (2, .int v2), (3, .int v3), (4, .int v4)] [] := by
  unfold f_X6_laySounds_b16 at hf
  refine r_iload hC dX6_laySounds_16 4 rfl ?_
  refine r_aload_n hC dX6_laySounds_18 1 rfl ?_
  refine r_bipush (v := 7) hC dX6_laySounds_19 rfl ?_
  have hin := if_K hf
  have hf := if_V hf
  refine r_iald hC (z_r hZ hr1) (inb_vp hin) dX6_laySounds_21 ?_
  refine r_icmp_ge 70 hC dX6_laySounds_22 (by decide) (fun h => ?_) (fun h => ?_)
  · have hf := if_T hf h
    refine r_iinc (v := v2 + 1) (L' := [(2, .int (v2 + 1)), (0, .ref (Z.1 27)), (1, .ref (Z.1 r1)), (3, .int v3), (4, .int v4)]) hC dX6_laySounds_70 2 rfl rfl (by decide) rfl ?_
    refine r_goto 2 hC dX6_laySounds_73 (by decide) ?_
    refine r_L [1, 2, 0] rfl ?_
    exact hk2 _ _ hf
  · have hf := if_F hf h
    refine r_aload_n hC dX6_laySounds_25 0 rfl ?_
    refine r_aload_n hC dX6_laySounds_26 1 rfl ?_
    refine r_iload_n hC dX6_laySounds_27 2 rfl ?_
    refine r_iload hC dX6_laySounds_28 4 rfl ?_
    refine r_callVI [] (fun r M1 h => c_X6_isHeld (cx_st hC) hz hZ r1 v2 v4 _ hr1 r M1 h) hf cs_X6_74 hC (z_1 hZ 27 (by decide) rfl) (q0 := (RX6, TX6, 19)) rfl rfl [.ref (Z.1 r1), .int v2, .int v4] rfl rfl rfl (by decide) (by decide) (Nat.le_of_ble_eq_true rfl) (by decide) (by decide) dX6_laySounds_30 (fun x1 M2 hf => ?_)
    refine r_if_eq 40 hC dX6_laySounds_33 (by decide) (fun h => ?_) (fun h => ?_)
    · have hf := if_T hf h
      refine r_aload_n hC dX6_laySounds_40 1 rfl ?_
      refine r_bipush (v := 8) hC dX6_laySounds_41 rfl ?_
      refine r_iload_n hC dX6_laySounds_43 2 rfl ?_
      refine r_iload hC dX6_laySounds_44 4 rfl ?_
      refine r_callSI [.int 8, .ref (Z.1 r1)] (fun r M1 h => c_X6_at (cx_st hC) hz hZ v2 v4 _  r M1 h) hf cs_X6_70 hC  rfl rfl (by decide) (by decide) (Nat.le_of_ble_eq_true rfl) (by decide) (by decide) dX6_laySounds_46 (fun x3 M4 hf => ?_)
      refine r_iadd hC dX6_laySounds_49 ?_
      have hin := if_K hf
      have hf := if_V hf
      refine r_iald hC (z_r hZ hr1) (inb_vp hin) dX6_laySounds_50 ?_
      refine r_L [0, 1, 2, 4] rfl ?_
      exact w_X6_laySounds_b51 hC hz hZ r1 v2 v4 hr1 k2 k16 hk2 hk16 (M4 r1 (Int32.toNatClampNeg (8 + x3))) _ hf
    · have hf := if_F hf h
      refine r_iload_n hC dX6_laySounds_36 3 rfl ?_
      refine r_goto 51 hC dX6_laySounds_37 (by decide) ?_
      refine r_L [0, 1, 2, 4] rfl ?_
      exact w_X6_laySounds_b51 hC hz hZ r1 v2 v4 hr1 k2 k16 hk2 hk16 v3 _ hf
set_option maxRecDepth 20000 in
theorem w_X6_laySounds_b2 {X : XX} {G : GG} {Z : ZZ} {r : Unit} {M' : Mem} (hC : Cx X G RX6 cX6_laySounds none 2 0 0 5) (hz : ZOk G Z) (hZ : ZM Z) (r1 : Nat) (hr1 : ArI r1) (k2 : Int32 → Mem → Option (Unit × Mem)) (hk2 : ∀ (u2 : Int32) (M : Mem), k2 u2 M = some (r, M') → V X G Z M 0 0 (QN X G (QcV G Z r M') 0 0) 2 [(0, .ref (Z.1 27)), (1, .ref (Z.1 r1)), (2, .int u2)] []) (v2 : Int32) (M : Mem) (hf : f_X6_laySounds_b2 r1 k2 v2 M = some (r, M')) : V X G Z M 0 0 (QN X G (QcV G Z r M') 0 0) 2 [(0, .ref (Z.1 27)), (1, .ref (Z.1 r1)), (2, .int v2)] [] := by
  unfold f_X6_laySounds_b2 at hf
  refine r_iload_n hC dX6_laySounds_2 2 rfl ?_
  refine r_aload_n hC dX6_laySounds_3 1 rfl ?_
  refine r_bipush (v := 6) hC dX6_laySounds_4 rfl ?_
  have hin := if_K hf
  have hf := if_V hf
  refine r_iald hC (z_r hZ hr1) (inb_vp hin) dX6_laySounds_6 ?_
  refine r_icmp_ge 76 hC dX6_laySounds_7 (by decide) (fun h => ?_) (fun h => ?_)
  · have hf := if_T hf h
    exact r_vret hf hC (by decide) (by decide) dX6_laySounds_76
  · have hf := if_F hf h
    refine r_bipush (v := (-9)) hC dX6_laySounds_10 rfl ?_
    refine r_istore_n (L' := [(3, .int (-9)), (0, .ref (Z.1 27)), (1, .ref (Z.1 r1)), (2, .int v2)]) hC dX6_laySounds_12 (by decide) rfl ?_
    refine r_iconst (v := 0) hC dX6_laySounds_13 rfl ?_
    refine r_istore (L' := [(4, .int 0), (3, .int (-9)), (0, .ref (Z.1 27)), (1, .ref (Z.1 r1)), (2, .int v2)]) hC dX6_laySounds_14 (by decide) rfl ?_
    refine r_L [2, 3, 4, 1, 0] rfl ?_
    exact lq2_ind (P := fun (u3 : Int32) (u4 : Int32) (M : Mem) => V X G Z M 0 0 (QN X G (QcV G Z r M') 0 0) 16 [(0, .ref (Z.1 27)), (1, .ref (Z.1 r1)), (2, .int v2), (3, .int u3), (4, .int u4)] []) (fun kk hkk u3 u4 M hf => w_X6_laySounds_b16 hC hz hZ r1 v2 hr1 k2 hk2 kk hkk u3 u4 M hf) _ _ _ _ hf
set_option maxRecDepth 20000 in
theorem w_X6_laySounds {X : XX} {G : GG} {Z : ZZ} (hC : Cx X G RX6 cX6_laySounds none 2 0 0 5) (hz : ZOk G Z) (hZ : ZM Z) (r1 : Nat) (M : Mem) (hr1 : ArI r1) {r : Unit} {M' : Mem} (hf : f_X6_laySounds r1 M = some (r, M')) : V X G Z M 0 0 (QN X G (QcV G Z r M') 0 0) 0 [(0, .ref (Z.1 27)), (1, .ref (Z.1 r1))] [] := by
  unfold f_X6_laySounds at hf
  refine r_iconst (v := 0) hC dX6_laySounds_0 rfl ?_
  refine r_istore_n (L' := [(2, .int 0), (0, .ref (Z.1 27)), (1, .ref (Z.1 r1))]) hC dX6_laySounds_1 (by decide) rfl ?_
  refine r_L [1, 2, 0] rfl ?_
  exact lq1_ind (P := fun (u2 : Int32) (M : Mem) => V X G Z M 0 0 (QN X G (QcV G Z r M') 0 0) 2 [(0, .ref (Z.1 27)), (1, .ref (Z.1 r1)), (2, .int u2)] []) (fun kk hkk u2 M hf => w_X6_laySounds_b2 hC hz hZ r1 hr1 kk hkk u2 M hf) _ _ _ hf
set_option maxRecDepth 20000 in
theorem c_X6_laySounds {l : Launch} (hl : l.stackTraces = false) {G : GG} {Z : ZZ} (hz : ZOk G Z) (hZ : ZM Z) (r1 : Nat) (M : Mem) (hr1 : ArI r1) (r : Unit) (M' : Mem) (hf : f_X6_laySounds r1 M = some (r, M')) : CN (QcV G Z r M') l G Z yX6_laySounds cX6_laySounds 5 none 2 [.ref (Z.1 27), .ref (Z.1 r1)] M :=
  CN.of [(0, .ref (Z.1 27)), (1, .ref (Z.1 r1))] hl (by decide +kernel) (Nat.le_of_ble_eq_true rfl) rfl (fun _ hC => w_X6_laySounds hC hz hZ r1 M hr1 hf)
set_option maxRecDepth 20000 in
theorem w_X6_rank {X : XX} {G : GG} {Z : ZZ} (hC : Cx X G RX6 cX6_rank (some .int) 0 0 0 2) (hz : ZOk G Z) (hZ : ZM Z) (r0 : Nat) (v1 : Int32) (M : Mem) (hr0 : ArI r0) {r : Int32} {M' : Mem} (hf : f_X6_rank r0 v1 M = some (r, M')) : V X G Z M 0 0 (QN X G (QcI G Z r M') 0 0) 0 [(0, .ref (Z.1 r0)), (1, .int v1)] [] := by
  unfold f_X6_rank at hf
  refine r_iload_n hC dX6_rank_0 1 rfl ?_
  refine r_if_ne 8 hC dX6_rank_1 (by decide) (fun h => ?_) (fun h => ?_)
  · have hf := if_F hf h
    refine r_iload_n hC dX6_rank_8 1 rfl ?_
    refine r_aload_n hC dX6_rank_9 0 rfl ?_
    refine r_bipush (v := 6) hC dX6_rank_10 rfl ?_
    have hin := if_K hf
    have hf := if_V hf
    refine r_iald hC (z_r hZ hr0) (inb_vp hin) dX6_rank_12 ?_
    refine r_iconst (v := 1) hC dX6_rank_13 rfl ?_
    refine r_isub hC dX6_rank_14 ?_
    refine r_icmp_ne 22 hC dX6_rank_15 (by decide) (fun h => ?_) (fun h => ?_)
    · have hf := if_F hf h
      refine r_iconst (v := 2) hC dX6_rank_22 rfl ?_
      exact r_iret hf hC (by decide) (by decide) dX6_rank_23
    · have hf := if_T hf h
      refine r_iconst (v := 1) hC dX6_rank_18 rfl ?_
      refine r_goto 23 hC dX6_rank_19 (by decide) ?_
      exact r_iret hf hC (by decide) (by decide) dX6_rank_23
  · have hf := if_T hf h
    refine r_iconst (v := 0) hC dX6_rank_4 rfl ?_
    refine r_goto 23 hC dX6_rank_5 (by decide) ?_
    exact r_iret hf hC (by decide) (by decide) dX6_rank_23
set_option maxRecDepth 20000 in
theorem c_X6_rank {l : Launch} (hl : l.stackTraces = false) {G : GG} {Z : ZZ} (hz : ZOk G Z) (hZ : ZM Z) (r0 : Nat) (v1 : Int32) (M : Mem) (hr0 : ArI r0) (r : Int32) (M' : Mem) (hf : f_X6_rank r0 v1 M = some (r, M')) : CN (QcI G Z r M') l G Z yX6_rank cX6_rank 2 (some .int) 0 [.ref (Z.1 r0), .int v1] M :=
  CN.of [(0, .ref (Z.1 r0)), (1, .int v1)] hl (by decide +kernel) (Nat.le_of_ble_eq_true rfl) rfl (fun _ hC => w_X6_rank hC hz hZ r0 v1 M hr0 hf)
set_option maxRecDepth 20000 in
theorem w_X6_stands_b134 {X : XX} {G : GG} {Z : ZZ} {r : Int32} {M' : Mem} (hC : Cx X G RX6 cX6_stands (some .boolean) 1 0 0 9) (hz : ZOk G Z) (hZ : ZM Z) (r1 : Nat) (v2 : Int32) (v3 : Int32) (v4 : Int32) (v6 : Int32) (hr1 : ArI r1) (k6 : Int32 → Int32 → Mem → Option (Int32 × Mem)) (hk6 : ∀ (u5 : Int32) (u6 : Int32) (M : Mem), k6 u5 u6 M = some (r, M') → V X G Z M 0 0 (QN X G (QcI G Z r M') 0 0) 6 [(0, .ref (Z.1 27)), (1, .ref (Z.1 r1)), (2, .int v2), (3, .int v3), (4, .int v4), (5, .int u5), (6, .int u6)] []) (M : Mem) (hf : f_X6_stands_b134 r1 v2 v3 v4 v6 k6 M = some (r, M')) : V X G Z M 0 0 (QN X G (QcI G Z r M') 0 0) 134 [(0, .ref (Z.1 27)), (1, .ref (Z.1 r1)), (2, .int v2), (3, .int v3), (4, .int v4), (6, .int v6)] [] := by
  unfold f_X6_stands_b134 at hf
  refine r_iconst (v := 1) hC dX6_stands_134 rfl ?_
  refine r_goto 139 hC dX6_stands_135 (by decide) ?_
  refine r_istore (L' := [(5, .int 1), (0, .ref (Z.1 27)), (1, .ref (Z.1 r1)), (2, .int v2), (3, .int v3), (4, .int v4), (6, .int v6)]) hC dX6_stands_139 (by decide) rfl ?_
  refine r_iinc (v := v6 + 1) (L' := [(6, .int (v6 + 1)), (5, .int 1), (0, .ref (Z.1 27)), (1, .ref (Z.1 r1)), (2, .int v2), (3, .int v3), (4, .int v4)]) hC dX6_stands_141 6 rfl rfl (by decide) rfl ?_
  refine r_goto 6 hC dX6_stands_144 (by decide) ?_
  refine r_L [2, 3, 4, 5, 6, 1, 0] rfl ?_
  exact hk6 _ _ _ hf
set_option maxRecDepth 20000 in
theorem w_X6_stands_b42 {X : XX} {G : GG} {Z : ZZ} {r : Int32} {M' : Mem} (hC : Cx X G RX6 cX6_stands (some .boolean) 1 0 0 9) (hz : ZOk G Z) (hZ : ZM Z) (r1 : Nat) (v2 : Int32) (v3 : Int32) (v4 : Int32) (v5 : Int32) (v6 : Int32) (hr1 : ArI r1) (k6 : Int32 → Int32 → Mem → Option (Int32 × Mem)) (hk6 : ∀ (u5 : Int32) (u6 : Int32) (M : Mem), k6 u5 u6 M = some (r, M') → V X G Z M 0 0 (QN X G (QcI G Z r M') 0 0) 6 [(0, .ref (Z.1 27)), (1, .ref (Z.1 r1)), (2, .int v2), (3, .int v3), (4, .int v4), (5, .int u5), (6, .int u6)] []) (s0 : Int32) (M : Mem) (hf : f_X6_stands_b42 r1 v2 v3 v4 v5 v6 k6 s0 M = some (r, M')) : V X G Z M 0 0 (QN X G (QcI G Z r M') 0 0) 42 [(0, .ref (Z.1 27)), (1, .ref (Z.1 r1)), (2, .int v2), (3, .int v3), (4, .int v4), (5, .int v5), (6, .int v6)] [.int s0] := by
  unfold f_X6_stands_b42 at hf
  refine r_istore (L' := [(7, .int s0), (0, .ref (Z.1 27)), (1, .ref (Z.1 r1)), (2, .int v2), (3, .int v3), (4, .int v4), (5, .int v5), (6, .int v6)]) hC dX6_stands_42 (by decide) rfl ?_
  refine r_iload hC dX6_stands_44 0 rfl ?_
  refine r_if_eq 141 hC dX6_stands_46 (by decide) (fun h => ?_) (fun h => ?_)
  · have hf := if_T hf h
    refine r_iinc (v := v6 + 1) (L' := [(6, .int (v6 + 1)), (7, .int s0), (0, .ref (Z.1 27)), (1, .ref (Z.1 r1)), (2, .int v2), (3, .int v3), (4, .int v4), (5, .int v5)]) hC dX6_stands_141 7 rfl rfl (by decide) rfl ?_
    refine r_goto 6 hC dX6_stands_144 (by decide) ?_
    refine r_L [2, 3, 4, 5, 6, 7, 0] rfl ?_
    exact hk6 _ _ _ hf
  · have hf := if_F hf h
    refine r_aload_n hC dX6_stands_49 1 rfl ?_
    refine gf_X6_35 hC (z_1 hZ 27 (by decide) rfl) rfl dX6_stands_50 ?_
    refine r_iload hC dX6_stands_53 7 rfl ?_
    refine r_iload_n hC dX6_stands_55 4 rfl ?_
    refine r_callSI [.ref (Z.1 36)] (fun r M1 h => c_X6_at (cx_st hC) hz hZ v6 v3 _  r M1 h) hf cs_X6_70 hC  rfl rfl (by decide) (by decide) (Nat.le_of_ble_eq_true rfl) (by decide) (by decide) dX6_stands_56 (fun x3 M4 hf => ?_)
    have hin := if_K hf
    have hf := if_V hf
    refine r_iald hC (z_1 hZ 36 (by decide) rfl) (inb_vp hin) dX6_stands_59 ?_
    refine r_bipush (v := (-9)) hC dX6_stands_60 rfl ?_
    refine r_icmp_eq 141 hC dX6_stands_62 (by decide) (fun h => ?_) (fun h => ?_)
    · have hf := if_T hf h
      refine r_iinc (v := v6 + 1) (L' := [(6, .int (v6 + 1)), (7, .int s0), (0, .ref (Z.1 27)), (1, .ref (Z.1 r1)), (2, .int v2), (3, .int v3), (4, .int v4), (5, .int v5)]) hC dX6_stands_141 7 rfl rfl (by decide) rfl ?_
      refine r_goto 6 hC dX6_stands_144 (by decide) ?_
      refine r_L [2, 3, 4, 5, 6, 7, 0] rfl ?_
      exact hk6 _ _ _ hf
    · have hf := if_F hf h
      refine r_aload_n hC dX6_stands_65 1 rfl ?_
      refine gf_X6_38 hC (z_1 hZ 27 (by decide) rfl) rfl dX6_stands_66 ?_
      refine r_iload hC dX6_stands_69 7 rfl ?_
      refine r_iload_n hC dX6_stands_71 4 rfl ?_
      refine r_callSI [.ref (Z.1 37)] (fun r M1 h => c_X6_at (cx_st hC) hz hZ v6 v3 _  r M1 h) hf cs_X6_70 hC  rfl rfl (by decide) (by decide) (Nat.le_of_ble_eq_true rfl) (by decide) (by decide) dX6_stands_72 (fun x5 M6 hf => ?_)
      have hin := if_K hf
      have hf := if_V hf
      refine r_iald hC (z_1 hZ 37 (by decide) rfl) (inb_vp hin) dX6_stands_75 ?_
      refine r_if_ne 141 hC dX6_stands_76 (by decide) (fun h => ?_) (fun h => ?_)
      · have hf := if_F hf h
        refine r_iinc (v := v6 + 1) (L' := [(6, .int (v6 + 1)), (7, .int s0), (0, .ref (Z.1 27)), (1, .ref (Z.1 r1)), (2, .int v2), (3, .int v3), (4, .int v4), (5, .int v5)]) hC dX6_stands_141 7 rfl rfl (by decide) rfl ?_
        refine r_goto 6 hC dX6_stands_144 (by decide) ?_
        refine r_L [2, 3, 4, 5, 6, 7, 0] rfl ?_
        exact hk6 _ _ _ hf
      · have hf := if_T hf h
        refine r_aload_n hC dX6_stands_79 1 rfl ?_
        refine gf_X6_35 hC (z_1 hZ 27 (by decide) rfl) rfl dX6_stands_80 ?_
        refine r_iload hC dX6_stands_83 7 rfl ?_
        refine r_iload_n hC dX6_stands_85 4 rfl ?_
        refine r_callSI [.ref (Z.1 36)] (fun r M1 h => c_X6_at (cx_st hC) hz hZ v6 v3 _  r M1 h) hf cs_X6_70 hC  rfl rfl (by decide) (by decide) (Nat.le_of_ble_eq_true rfl) (by decide) (by decide) dX6_stands_86 (fun x7 M8 hf => ?_)
        have hin := if_K hf
        have hf := if_V hf
        refine r_iald hC (z_1 hZ 36 (by decide) rfl) (inb_vp hin) dX6_stands_89 ?_
        refine r_aload_n hC dX6_stands_90 1 rfl ?_
        refine gf_X6_35 hC (z_1 hZ 27 (by decide) rfl) rfl dX6_stands_91 ?_
        refine r_iload_n hC dX6_stands_94 3 rfl ?_
        refine r_iload_n hC dX6_stands_95 4 rfl ?_
        refine r_callSI [.ref (Z.1 36), .int (M8 36 (Int32.toNatClampNeg x7))] (fun r M1 h => c_X6_at (cx_st hC) hz hZ v2 v3 _  r M1 h) hf cs_X6_70 hC  rfl rfl (by decide) (by decide) (Nat.le_of_ble_eq_true rfl) (by decide) (by decide) dX6_stands_96 (fun x9 M10 hf => ?_)
        have hin := if_K hf
        have hf := if_V hf
        refine r_iald hC (z_1 hZ 36 (by decide) rfl) (inb_vp hin) dX6_stands_99 ?_
        refine r_isub hC dX6_stands_100 ?_
        refine r_istore (L' := [(8, .int ((M8 36 (Int32.toNatClampNeg x7)) - (M10 36 (Int32.toNatClampNeg x9)))), (7, .int s0), (0, .ref (Z.1 27)), (1, .ref (Z.1 r1)), (2, .int v2), (3, .int v3), (4, .int v4), (5, .int v5), (6, .int v6)]) hC dX6_stands_101 (by decide) rfl ?_
        refine r_iload hC dX6_stands_103 7 rfl ?_
        refine r_if_ne 134 hC dX6_stands_105 (by decide) (fun h => ?_) (fun h => ?_)
        · have hf := if_F hf h
          refine r_L [2, 3, 4, 5, 6, 8] rfl ?_
          exact w_X6_stands_b134 hC hz hZ r1 v2 v3 v4 v6 hr1 k6 hk6 _ hf
        · have hf := if_T hf h
          refine r_iload hC dX6_stands_108 6 rfl ?_
          refine r_if_eq 129 hC dX6_stands_110 (by decide) (fun h => ?_) (fun h => ?_)
          · have hf := if_T hf h
            refine r_iload hC dX6_stands_129 0 rfl ?_
            refine r_if_ne 138 hC dX6_stands_131 (by decide) (fun h => ?_) (fun h => ?_)
            · have hf := if_F hf h
              refine r_iconst (v := 0) hC dX6_stands_138 rfl ?_
              refine r_istore (L' := [(5, .int 0), (8, .int ((M8 36 (Int32.toNatClampNeg x7)) - (M10 36 (Int32.toNatClampNeg x9)))), (7, .int s0), (0, .ref (Z.1 27)), (1, .ref (Z.1 r1)), (2, .int v2), (3, .int v3), (4, .int v4), (6, .int v6)]) hC dX6_stands_139 (by decide) rfl ?_
              refine r_iinc (v := v6 + 1) (L' := [(6, .int (v6 + 1)), (5, .int 0), (8, .int ((M8 36 (Int32.toNatClampNeg x7)) - (M10 36 (Int32.toNatClampNeg x9)))), (7, .int s0), (0, .ref (Z.1 27)), (1, .ref (Z.1 r1)), (2, .int v2), (3, .int v3), (4, .int v4)]) hC dX6_stands_141 8 rfl rfl (by decide) rfl ?_
              refine r_goto 6 hC dX6_stands_144 (by decide) ?_
              refine r_L [4, 5, 6, 7, 8, 1, 0] rfl ?_
              exact hk6 _ _ _ hf
            · have hf := if_T hf h
              refine r_L [2, 3, 4, 5, 6, 8] rfl ?_
              exact w_X6_stands_b134 hC hz hZ r1 v2 v3 v4 v6 hr1 k6 hk6 _ hf
          · have hf := if_F hf h
            refine r_iload hC dX6_stands_113 0 rfl ?_
            refine r_if_eq 138 hC dX6_stands_115 (by decide) (fun h => ?_) (fun h => ?_)
            · have hf := if_T hf h
              refine r_iconst (v := 0) hC dX6_stands_138 rfl ?_
              refine r_istore (L' := [(5, .int 0), (8, .int ((M8 36 (Int32.toNatClampNeg x7)) - (M10 36 (Int32.toNatClampNeg x9)))), (7, .int s0), (0, .ref (Z.1 27)), (1, .ref (Z.1 r1)), (2, .int v2), (3, .int v3), (4, .int v4), (6, .int v6)]) hC dX6_stands_139 (by decide) rfl ?_
              refine r_iinc (v := v6 + 1) (L' := [(6, .int (v6 + 1)), (5, .int 0), (8, .int ((M8 36 (Int32.toNatClampNeg x7)) - (M10 36 (Int32.toNatClampNeg x9)))), (7, .int s0), (0, .ref (Z.1 27)), (1, .ref (Z.1 r1)), (2, .int v2), (3, .int v3), (4, .int v4)]) hC dX6_stands_141 8 rfl rfl (by decide) rfl ?_
              refine r_goto 6 hC dX6_stands_144 (by decide) ?_
              refine r_L [4, 5, 6, 7, 8, 1, 0] rfl ?_
              exact hk6 _ _ _ hf
            · have hf := if_F hf h
              refine r_iload hC dX6_stands_118 0 rfl ?_
              refine r_bipush (v := 12) hC dX6_stands_120 rfl ?_
              refine r_irem hC dX6_stands_122 (by decide) ?_
              refine r_if_ne 138 hC dX6_stands_123 (by decide) (fun h => ?_) (fun h => ?_)
              · have hf := if_F hf h
                refine r_iconst (v := 0) hC dX6_stands_138 rfl ?_
                refine r_istore (L' := [(5, .int 0), (8, .int ((M8 36 (Int32.toNatClampNeg x7)) - (M10 36 (Int32.toNatClampNeg x9)))), (7, .int s0), (0, .ref (Z.1 27)), (1, .ref (Z.1 r1)), (2, .int v2), (3, .int v3), (4, .int v4), (6, .int v6)]) hC dX6_stands_139 (by decide) rfl ?_
                refine r_iinc (v := v6 + 1) (L' := [(6, .int (v6 + 1)), (5, .int 0), (8, .int ((M8 36 (Int32.toNatClampNeg x7)) - (M10 36 (Int32.toNatClampNeg x9)))), (7, .int s0), (0, .ref (Z.1 27)), (1, .ref (Z.1 r1)), (2, .int v2), (3, .int v3), (4, .int v4)]) hC dX6_stands_141 8 rfl rfl (by decide) rfl ?_
                refine r_goto 6 hC dX6_stands_144 (by decide) ?_
                refine r_L [4, 5, 6, 7, 8, 1, 0] rfl ?_
                exact hk6 _ _ _ hf
              · have hf := if_T hf h
                refine r_goto 134 hC dX6_stands_126 (by decide) ?_
                refine r_L [2, 3, 4, 5, 6, 8] rfl ?_
                exact w_X6_stands_b134 hC hz hZ r1 v2 v3 v4 v6 hr1 k6 hk6 _ hf
set_option maxRecDepth 20000 in
theorem w_X6_stands_b37 {X : XX} {G : GG} {Z : ZZ} {r : Int32} {M' : Mem} (hC : Cx X G RX6 cX6_stands (some .boolean) 1 0 0 9) (hz : ZOk G Z) (hZ : ZM Z) (r1 : Nat) (v2 : Int32) (v3 : Int32) (v4 : Int32) (v5 : Int32) (v6 : Int32) (hr1 : ArI r1) (k6 : Int32 → Int32 → Mem → Option (Int32 × Mem)) (hk6 : ∀ (u5 : Int32) (u6 : Int32) (M : Mem), k6 u5 u6 M = some (r, M') → V X G Z M 0 0 (QN X G (QcI G Z r M') 0 0) 6 [(0, .ref (Z.1 27)), (1, .ref (Z.1 r1)), (2, .int v2), (3, .int v3), (4, .int v4), (5, .int u5), (6, .int u6)] []) (M : Mem) (hf : f_X6_stands_b37 r1 v2 v3 v4 v5 v6 k6 M = some (r, M')) : V X G Z M 0 0 (QN X G (QcI G Z r M') 0 0) 37 [(0, .ref (Z.1 27)), (1, .ref (Z.1 r1)), (2, .int v2), (3, .int v3), (4, .int v4), (5, .int v5), (6, .int v6)] [] := by
  unfold f_X6_stands_b37 at hf
  refine r_iconst (v := 1) hC dX6_stands_37 rfl ?_
  refine r_goto 42 hC dX6_stands_38 (by decide) ?_
  exact w_X6_stands_b42 hC hz hZ r1 v2 v3 v4 v5 v6 hr1 k6 hk6 1 _ hf
set_option maxRecDepth 20000 in
theorem w_X6_stands_b41 {X : XX} {G : GG} {Z : ZZ} {r : Int32} {M' : Mem} (hC : Cx X G RX6 cX6_stands (some .boolean) 1 0 0 9) (hz : ZOk G Z) (hZ : ZM Z) (r1 : Nat) (v2 : Int32) (v3 : Int32) (v4 : Int32) (v5 : Int32) (v6 : Int32) (hr1 : ArI r1) (k6 : Int32 → Int32 → Mem → Option (Int32 × Mem)) (hk6 : ∀ (u5 : Int32) (u6 : Int32) (M : Mem), k6 u5 u6 M = some (r, M') → V X G Z M 0 0 (QN X G (QcI G Z r M') 0 0) 6 [(0, .ref (Z.1 27)), (1, .ref (Z.1 r1)), (2, .int v2), (3, .int v3), (4, .int v4), (5, .int u5), (6, .int u6)] []) (M : Mem) (hf : f_X6_stands_b41 r1 v2 v3 v4 v5 v6 k6 M = some (r, M')) : V X G Z M 0 0 (QN X G (QcI G Z r M') 0 0) 41 [(0, .ref (Z.1 27)), (1, .ref (Z.1 r1)), (2, .int v2), (3, .int v3), (4, .int v4), (5, .int v5), (6, .int v6)] [] := by
  unfold f_X6_stands_b41 at hf
  refine r_iconst (v := 0) hC dX6_stands_41 rfl ?_
  exact w_X6_stands_b42 hC hz hZ r1 v2 v3 v4 v5 v6 hr1 k6 hk6 0 _ hf
set_option maxRecDepth 20000 in
theorem w_X6_stands_b6 {X : XX} {G : GG} {Z : ZZ} {r : Int32} {M' : Mem} (hC : Cx X G RX6 cX6_stands (some .boolean) 1 0 0 9) (hz : ZOk G Z) (hZ : ZM Z) (r1 : Nat) (v2 : Int32) (v3 : Int32) (v4 : Int32) (hr1 : ArI r1) (k6 : Int32 → Int32 → Mem → Option (Int32 × Mem)) (hk6 : ∀ (u5 : Int32) (u6 : Int32) (M : Mem), k6 u5 u6 M = some (r, M') → V X G Z M 0 0 (QN X G (QcI G Z r M') 0 0) 6 [(0, .ref (Z.1 27)), (1, .ref (Z.1 r1)), (2, .int v2), (3, .int v3), (4, .int v4), (5, .int u5), (6, .int u6)] []) (v5 : Int32) (v6 : Int32) (M : Mem) (hf : f_X6_stands_b6 r1 v2 v3 v4 k6 v5 v6 M = some (r, M')) : V X G Z M 0 0 (QN X G (QcI G Z r M') 0 0) 6 [(0, .ref (Z.1 27)), (1, .ref (Z.1 r1)), (2, .int v2), (3, .int v3), (4, .int v4), (5, .int v5), (6, .int v6)] [] := by
  unfold f_X6_stands_b6 at hf
  refine r_iload hC dX6_stands_6 6 rfl ?_
  refine r_aload_n hC dX6_stands_8 1 rfl ?_
  refine r_bipush (v := 6) hC dX6_stands_9 rfl ?_
  have hin := if_K hf
  have hf := if_V hf
  refine r_iald hC (z_r hZ hr1) (inb_vp hin) dX6_stands_11 ?_
  refine r_icmp_ge 147 hC dX6_stands_12 (by decide) (fun h => ?_) (fun h => ?_)
  · have hf := if_T hf h
    refine r_iload hC dX6_stands_147 5 rfl ?_
    have hne := if_K hf
    have hf := if_V hf
    exact r_zret hf hC rfl (nar_bool hne).1 (by decide) (by decide) dX6_stands_149
  · have hf := if_F hf h
    refine r_iload hC dX6_stands_15 6 rfl ?_
    refine r_iload_n hC dX6_stands_17 2 rfl ?_
    refine r_icmp_eq 41 hC dX6_stands_18 (by decide) (fun h => ?_) (fun h => ?_)
    · have hf := if_T hf h
      exact w_X6_stands_b41 hC hz hZ r1 v2 v3 v4 v5 v6 hr1 k6 hk6 _ hf
    · have hf := if_F hf h
      refine r_aload_n hC dX6_stands_21 1 rfl ?_
      refine r_iload hC dX6_stands_22 6 rfl ?_
      refine r_callSI [] (fun r M1 h => c_X6_rank (cx_st hC) hz hZ r1 v6 _ hr1 r M1 h) hf cs_X6_78 hC  rfl rfl (by decide) (by decide) (Nat.le_of_ble_eq_true rfl) (by decide) (by decide) dX6_stands_24 (fun x1 M2 hf => ?_)
      refine r_iconst (v := 2) hC dX6_stands_27 rfl ?_
      refine r_icmp_lt 37 hC dX6_stands_28 (by decide) (fun h => ?_) (fun h => ?_)
      · have hf := if_T hf h
        exact w_X6_stands_b37 hC hz hZ r1 v2 v3 v4 v5 v6 hr1 k6 hk6 _ hf
      · have hf := if_F hf h
        refine r_iload hC dX6_stands_31 6 rfl ?_
        refine r_iload_n hC dX6_stands_33 2 rfl ?_
        refine r_icmp_ge 41 hC dX6_stands_34 (by decide) (fun h => ?_) (fun h => ?_)
        · have hf := if_T hf h
          exact w_X6_stands_b41 hC hz hZ r1 v2 v3 v4 v5 v6 hr1 k6 hk6 _ hf
        · have hf := if_F hf h
          exact w_X6_stands_b37 hC hz hZ r1 v2 v3 v4 v5 v6 hr1 k6 hk6 _ hf
set_option maxRecDepth 20000 in
theorem w_X6_stands {X : XX} {G : GG} {Z : ZZ} (hC : Cx X G RX6 cX6_stands (some .boolean) 1 0 0 9) (hz : ZOk G Z) (hZ : ZM Z) (r1 : Nat) (v2 : Int32) (v3 : Int32) (v4 : Int32) (M : Mem) (hr1 : ArI r1) {r : Int32} {M' : Mem} (hf : f_X6_stands r1 v2 v3 v4 M = some (r, M')) : V X G Z M 0 0 (QN X G (QcI G Z r M') 0 0) 0 [(0, .ref (Z.1 27)), (1, .ref (Z.1 r1)), (2, .int v2), (3, .int v3), (4, .int v4)] [] := by
  unfold f_X6_stands at hf
  refine r_iconst (v := 0) hC dX6_stands_0 rfl ?_
  refine r_istore (L' := [(5, .int 0), (0, .ref (Z.1 27)), (1, .ref (Z.1 r1)), (2, .int v2), (3, .int v3), (4, .int v4)]) hC dX6_stands_1 (by decide) rfl ?_
  refine r_iconst (v := 0) hC dX6_stands_3 rfl ?_
  refine r_istore (L' := [(6, .int 0), (5, .int 0), (0, .ref (Z.1 27)), (1, .ref (Z.1 r1)), (2, .int v2), (3, .int v3), (4, .int v4)]) hC dX6_stands_4 (by decide) rfl ?_
  refine r_L [2, 3, 4, 5, 6, 1, 0] rfl ?_
  exact lq2_ind (P := fun (u5 : Int32) (u6 : Int32) (M : Mem) => V X G Z M 0 0 (QN X G (QcI G Z r M') 0 0) 6 [(0, .ref (Z.1 27)), (1, .ref (Z.1 r1)), (2, .int v2), (3, .int v3), (4, .int v4), (5, .int u5), (6, .int u6)] []) (fun kk hkk u5 u6 M hf => w_X6_stands_b6 hC hz hZ r1 v2 v3 v4 hr1 kk hkk u5 u6 M hf) _ _ _ _ hf
set_option maxRecDepth 20000 in
theorem c_X6_stands {l : Launch} (hl : l.stackTraces = false) {G : GG} {Z : ZZ} (hz : ZOk G Z) (hZ : ZM Z) (r1 : Nat) (v2 : Int32) (v3 : Int32) (v4 : Int32) (M : Mem) (hr1 : ArI r1) (r : Int32) (M' : Mem) (hf : f_X6_stands r1 v2 v3 v4 M = some (r, M')) : CN (QcI G Z r M') l G Z yX6_stands cX6_stands 9 (some .boolean) 1 [.ref (Z.1 27), .ref (Z.1 r1), .int v2, .int v3, .int v4] M :=
  CN.of [(0, .ref (Z.1 27)), (1, .ref (Z.1 r1)), (2, .int v2), (3, .int v3), (4, .int v4)] hl (by decide +kernel) (Nat.le_of_ble_eq_true rfl) rfl (fun _ hC => w_X6_stands hC hz hZ r1 v2 v3 v4 M hr1 hf)
set_option maxRecDepth 20000 in
theorem w_X6_layReasons_b29 {X : XX} {G : GG} {Z : ZZ} {r : Unit} {M' : Mem} (hC : Cx X G RX6 cX6_layReasons none 2 0 0 4) (hz : ZOk G Z) (hZ : ZM Z) (r1 : Nat) (v2 : Int32) (hr1 : ArI r1) (k29 : Int32 → Mem → Option (Unit × Mem)) (hk29 : ∀ (u3 : Int32) (M : Mem), k29 u3 M = some (r, M') → V X G Z M 0 0 (QN X G (QcV G Z r M') 0 0) 29 [(0, .ref (Z.1 27)), (1, .ref (Z.1 r1)), (2, .int v2), (3, .int u3)] []) (v3 : Int32) (M : Mem) (hf : f_X6_layReasons_b29 r1 v2 k29 v3 M = some (r, M')) : V X G Z M 0 0 (QN X G (QcV G Z r M') 0 0) 29 [(0, .ref (Z.1 27)), (1, .ref (Z.1 r1)), (2, .int v2), (3, .int v3)] [] := by
  unfold f_X6_layReasons_b29 at hf
  refine r_iload_n hC dX6_layReasons_29 3 rfl ?_
  refine r_aload_n hC dX6_layReasons_30 1 rfl ?_
  refine r_bipush (v := 6) hC dX6_layReasons_31 rfl ?_
  have hin := if_K hf
  have hf := if_V hf
  refine r_iald hC (z_r hZ hr1) (inb_vp hin) dX6_layReasons_33 ?_
  refine r_iconst (v := 1) hC dX6_layReasons_34 rfl ?_
  refine r_isub hC dX6_layReasons_35 ?_
  refine r_icmp_ge 108 hC dX6_layReasons_36 (by decide) (fun h => ?_) (fun h => ?_)
  · have hf := if_T hf h
    exact r_vret hf hC (by decide) (by decide) dX6_layReasons_108
  · have hf := if_F hf h
    refine r_aload_n hC dX6_layReasons_39 0 rfl ?_
    refine gf_X6_35 hC (z_1 hZ 27 (by decide) rfl) rfl dX6_layReasons_40 ?_
    refine r_iload_n hC dX6_layReasons_43 3 rfl ?_
    refine r_iload_n hC dX6_layReasons_44 2 rfl ?_
    refine r_callSI [.ref (Z.1 36)] (fun r M1 h => c_X6_at (cx_st hC) hz hZ v3 v2 _  r M1 h) hf cs_X6_70 hC  rfl rfl (by decide) (by decide) (Nat.le_of_ble_eq_true rfl) (by decide) (by decide) dX6_layReasons_45 (fun x3 M4 hf => ?_)
    have hin := if_K hf
    have hf := if_V hf
    refine r_iald hC (z_1 hZ 36 (by decide) rfl) (inb_vp hin) dX6_layReasons_48 ?_
    refine r_bipush (v := (-9)) hC dX6_layReasons_49 rfl ?_
    refine r_icmp_eq 102 hC dX6_layReasons_51 (by decide) (fun h => ?_) (fun h => ?_)
    · have hf := if_T hf h
      refine r_iinc (v := v3 + 1) (L' := [(3, .int (v3 + 1)), (0, .ref (Z.1 27)), (1, .ref (Z.1 r1)), (2, .int v2)]) hC dX6_layReasons_102 3 rfl rfl (by decide) rfl ?_
      refine r_goto 29 hC dX6_layReasons_105 (by decide) ?_
      refine r_L [1, 2, 3, 0] rfl ?_
      exact hk29 _ _ hf
    · have hf := if_F hf h
      refine r_aload_n hC dX6_layReasons_54 0 rfl ?_
      refine gf_X6_38 hC (z_1 hZ 27 (by decide) rfl) rfl dX6_layReasons_55 ?_
      refine r_iload_n hC dX6_layReasons_58 3 rfl ?_
      refine r_iload_n hC dX6_layReasons_59 2 rfl ?_
      refine r_callSI [.ref (Z.1 37)] (fun r M1 h => c_X6_at (cx_st hC) hz hZ v3 v2 _  r M1 h) hf cs_X6_70 hC  rfl rfl (by decide) (by decide) (Nat.le_of_ble_eq_true rfl) (by decide) (by decide) dX6_layReasons_60 (fun x5 M6 hf => ?_)
      refine r_aload_n hC dX6_layReasons_63 0 rfl ?_
      refine r_aload_n hC dX6_layReasons_64 1 rfl ?_
      refine r_iload_n hC dX6_layReasons_65 3 rfl ?_
      refine r_iload_n hC dX6_layReasons_66 2 rfl ?_
      refine r_iconst (v := 0) hC dX6_layReasons_67 rfl ?_
      refine r_callVI [.int x5, .ref (Z.1 37)] (fun r M1 h => c_X6_stands (cx_st hC) hz hZ r1 v3 v2 0 _ hr1 r M1 h) hf cs_X6_82 hC (z_1 hZ 27 (by decide) rfl) (q0 := (RX6, TX6, 19)) rfl rfl [.ref (Z.1 r1), .int v3, .int v2, .int 0] rfl rfl rfl (by decide) (by decide) (Nat.le_of_ble_eq_true rfl) (by decide) (by decide) dX6_layReasons_68 (fun x7 M8 hf => ?_)
      refine r_if_eq 78 hC dX6_layReasons_71 (by decide) (fun h => ?_) (fun h => ?_)
      · have hf := if_T hf h
        refine r_aload_n hC dX6_layReasons_78 1 rfl ?_
        refine r_iconst (v := 4) hC dX6_layReasons_79 rfl ?_
        have hin := if_K hf
        have hf := if_V hf
        refine r_iald hC (z_r hZ hr1) (inb_vp hin) dX6_layReasons_80 ?_
        refine r_iconst (v := 1) hC dX6_layReasons_81 rfl ?_
        refine r_icmp_ne 100 hC dX6_layReasons_82 (by decide) (fun h => ?_) (fun h => ?_)
        · have hf := if_F hf h
          refine r_iconst (v := 0) hC dX6_layReasons_100 rfl ?_
          have hin := if_K hf
          have hf := if_V hf
          refine r_iast hC hz (z_1 hZ 37 (by decide) rfl) (inb_vp hin) dX6_layReasons_101 ?_
          refine r_iinc (v := v3 + 1) (L' := [(3, .int (v3 + 1)), (0, .ref (Z.1 27)), (1, .ref (Z.1 r1)), (2, .int v2)]) hC dX6_layReasons_102 3 rfl rfl (by decide) rfl ?_
          refine r_goto 29 hC dX6_layReasons_105 (by decide) ?_
          refine r_L [1, 2, 3, 0] rfl ?_
          exact hk29 _ _ hf
        · have hf := if_T hf h
          refine r_aload_n hC dX6_layReasons_85 0 rfl ?_
          refine r_aload_n hC dX6_layReasons_86 1 rfl ?_
          refine r_iload_n hC dX6_layReasons_87 3 rfl ?_
          refine r_iload_n hC dX6_layReasons_88 2 rfl ?_
          refine r_iconst (v := 1) hC dX6_layReasons_89 rfl ?_
          refine r_callVI [.int x5, .ref (Z.1 37)] (fun r M1 h => c_X6_stands (cx_st hC) hz hZ r1 v3 v2 1 _ hr1 r M1 h) hf cs_X6_82 hC (z_1 hZ 27 (by decide) rfl) (q0 := (RX6, TX6, 19)) rfl rfl [.ref (Z.1 r1), .int v3, .int v2, .int 1] rfl rfl rfl (by decide) (by decide) (Nat.le_of_ble_eq_true rfl) (by decide) (by decide) dX6_layReasons_90 (fun x9 M10 hf => ?_)
          refine r_if_eq 100 hC dX6_layReasons_93 (by decide) (fun h => ?_) (fun h => ?_)
          · have hf := if_T hf h
            refine r_iconst (v := 0) hC dX6_layReasons_100 rfl ?_
            have hin := if_K hf
            have hf := if_V hf
            refine r_iast hC hz (z_1 hZ 37 (by decide) rfl) (inb_vp hin) dX6_layReasons_101 ?_
            refine r_iinc (v := v3 + 1) (L' := [(3, .int (v3 + 1)), (0, .ref (Z.1 27)), (1, .ref (Z.1 r1)), (2, .int v2)]) hC dX6_layReasons_102 3 rfl rfl (by decide) rfl ?_
            refine r_goto 29 hC dX6_layReasons_105 (by decide) ?_
            refine r_L [1, 2, 3, 0] rfl ?_
            exact hk29 _ _ hf
          · have hf := if_F hf h
            refine r_iconst (v := 2) hC dX6_layReasons_96 rfl ?_
            refine r_goto 101 hC dX6_layReasons_97 (by decide) ?_
            have hin := if_K hf
            have hf := if_V hf
            refine r_iast hC hz (z_1 hZ 37 (by decide) rfl) (inb_vp hin) dX6_layReasons_101 ?_
            refine r_iinc (v := v3 + 1) (L' := [(3, .int (v3 + 1)), (0, .ref (Z.1 27)), (1, .ref (Z.1 r1)), (2, .int v2)]) hC dX6_layReasons_102 3 rfl rfl (by decide) rfl ?_
            refine r_goto 29 hC dX6_layReasons_105 (by decide) ?_
            refine r_L [1, 2, 3, 0] rfl ?_
            exact hk29 _ _ hf
      · have hf := if_F hf h
        refine r_iconst (v := 1) hC dX6_layReasons_74 rfl ?_
        refine r_goto 101 hC dX6_layReasons_75 (by decide) ?_
        have hin := if_K hf
        have hf := if_V hf
        refine r_iast hC hz (z_1 hZ 37 (by decide) rfl) (inb_vp hin) dX6_layReasons_101 ?_
        refine r_iinc (v := v3 + 1) (L' := [(3, .int (v3 + 1)), (0, .ref (Z.1 27)), (1, .ref (Z.1 r1)), (2, .int v2)]) hC dX6_layReasons_102 3 rfl rfl (by decide) rfl ?_
        refine r_goto 29 hC dX6_layReasons_105 (by decide) ?_
        refine r_L [1, 2, 3, 0] rfl ?_
        exact hk29 _ _ hf
set_option maxRecDepth 20000 in
theorem w_X6_layReasons_b27 {X : XX} {G : GG} {Z : ZZ} {r : Unit} {M' : Mem} (hC : Cx X G RX6 cX6_layReasons none 2 0 0 4) (hz : ZOk G Z) (hZ : ZM Z) (r1 : Nat) (v2 : Int32) (hr1 : ArI r1) (M : Mem) (hf : f_X6_layReasons_b27 r1 v2 M = some (r, M')) : V X G Z M 0 0 (QN X G (QcV G Z r M') 0 0) 27 [(0, .ref (Z.1 27)), (1, .ref (Z.1 r1)), (2, .int v2)] [] := by
  unfold f_X6_layReasons_b27 at hf
  refine r_iconst (v := 1) hC dX6_layReasons_27 rfl ?_
  refine r_istore_n (L' := [(3, .int 1), (0, .ref (Z.1 27)), (1, .ref (Z.1 r1)), (2, .int v2)]) hC dX6_layReasons_28 (by decide) rfl ?_
  refine r_L [1, 2, 3, 0] rfl ?_
  exact lq1_ind (P := fun (u3 : Int32) (M : Mem) => V X G Z M 0 0 (QN X G (QcV G Z r M') 0 0) 29 [(0, .ref (Z.1 27)), (1, .ref (Z.1 r1)), (2, .int v2), (3, .int u3)] []) (fun kk hkk u3 M hf => w_X6_layReasons_b29 hC hz hZ r1 v2 hr1 kk hkk u3 M hf) _ _ _ hf
set_option maxRecDepth 20000 in
theorem w_X6_layReasons_b2 {X : XX} {G : GG} {Z : ZZ} {r : Unit} {M' : Mem} (hC : Cx X G RX6 cX6_layReasons none 2 0 0 4) (hz : ZOk G Z) (hZ : ZM Z) (r1 : Nat) (v2 : Int32) (hr1 : ArI r1) (k2 : Int32 → Mem → Option (Unit × Mem)) (hk2 : ∀ (u3 : Int32) (M : Mem), k2 u3 M = some (r, M') → V X G Z M 0 0 (QN X G (QcV G Z r M') 0 0) 2 [(0, .ref (Z.1 27)), (1, .ref (Z.1 r1)), (2, .int v2), (3, .int u3)] []) (v3 : Int32) (M : Mem) (hf : f_X6_layReasons_b2 r1 v2 k2 v3 M = some (r, M')) : V X G Z M 0 0 (QN X G (QcV G Z r M') 0 0) 2 [(0, .ref (Z.1 27)), (1, .ref (Z.1 r1)), (2, .int v2), (3, .int v3)] [] := by
  unfold f_X6_layReasons_b2 at hf
  refine r_iload_n hC dX6_layReasons_2 3 rfl ?_
  refine r_aload_n hC dX6_layReasons_3 1 rfl ?_
  refine r_bipush (v := 6) hC dX6_layReasons_4 rfl ?_
  have hin := if_K hf
  have hf := if_V hf
  refine r_iald hC (z_r hZ hr1) (inb_vp hin) dX6_layReasons_6 ?_
  refine r_icmp_ge 27 hC dX6_layReasons_7 (by decide) (fun h => ?_) (fun h => ?_)
  · have hf := if_T hf h
    refine r_L [0, 1, 2] rfl ?_
    exact w_X6_layReasons_b27 hC hz hZ r1 v2 hr1 _ hf
  · have hf := if_F hf h
    refine r_aload_n hC dX6_layReasons_10 0 rfl ?_
    refine gf_X6_38 hC (z_1 hZ 27 (by decide) rfl) rfl dX6_layReasons_11 ?_
    refine r_iload_n hC dX6_layReasons_14 3 rfl ?_
    refine r_iload_n hC dX6_layReasons_15 2 rfl ?_
    refine r_callSI [.ref (Z.1 37)] (fun r M1 h => c_X6_at (cx_st hC) hz hZ v3 v2 _  r M1 h) hf cs_X6_70 hC  rfl rfl (by decide) (by decide) (Nat.le_of_ble_eq_true rfl) (by decide) (by decide) dX6_layReasons_16 (fun x1 M2 hf => ?_)
    refine r_iconst (v := 0) hC dX6_layReasons_19 rfl ?_
    have hin := if_K hf
    have hf := if_V hf
    refine r_iast hC hz (z_1 hZ 37 (by decide) rfl) (inb_vp hin) dX6_layReasons_20 ?_
    refine r_iinc (v := v3 + 1) (L' := [(3, .int (v3 + 1)), (0, .ref (Z.1 27)), (1, .ref (Z.1 r1)), (2, .int v2)]) hC dX6_layReasons_21 3 rfl rfl (by decide) rfl ?_
    refine r_goto 2 hC dX6_layReasons_24 (by decide) ?_
    refine r_L [1, 2, 3, 0] rfl ?_
    exact hk2 _ _ hf
set_option maxRecDepth 20000 in
theorem w_X6_layReasons {X : XX} {G : GG} {Z : ZZ} (hC : Cx X G RX6 cX6_layReasons none 2 0 0 4) (hz : ZOk G Z) (hZ : ZM Z) (r1 : Nat) (v2 : Int32) (M : Mem) (hr1 : ArI r1) {r : Unit} {M' : Mem} (hf : f_X6_layReasons r1 v2 M = some (r, M')) : V X G Z M 0 0 (QN X G (QcV G Z r M') 0 0) 0 [(0, .ref (Z.1 27)), (1, .ref (Z.1 r1)), (2, .int v2)] [] := by
  unfold f_X6_layReasons at hf
  refine r_iconst (v := 0) hC dX6_layReasons_0 rfl ?_
  refine r_istore_n (L' := [(3, .int 0), (0, .ref (Z.1 27)), (1, .ref (Z.1 r1)), (2, .int v2)]) hC dX6_layReasons_1 (by decide) rfl ?_
  refine r_L [1, 2, 3, 0] rfl ?_
  exact lq1_ind (P := fun (u3 : Int32) (M : Mem) => V X G Z M 0 0 (QN X G (QcV G Z r M') 0 0) 2 [(0, .ref (Z.1 27)), (1, .ref (Z.1 r1)), (2, .int v2), (3, .int u3)] []) (fun kk hkk u3 M hf => w_X6_layReasons_b2 hC hz hZ r1 v2 hr1 kk hkk u3 M hf) _ _ _ hf
set_option maxRecDepth 20000 in
theorem c_X6_layReasons {l : Launch} (hl : l.stackTraces = false) {G : GG} {Z : ZZ} (hz : ZOk G Z) (hZ : ZM Z) (r1 : Nat) (v2 : Int32) (M : Mem) (hr1 : ArI r1) (r : Unit) (M' : Mem) (hf : f_X6_layReasons r1 v2 M = some (r, M')) : CN (QcV G Z r M') l G Z yX6_layReasons cX6_layReasons 4 none 2 [.ref (Z.1 27), .ref (Z.1 r1), .int v2] M :=
  CN.of [(0, .ref (Z.1 27)), (1, .ref (Z.1 r1)), (2, .int v2)] hl (by decide +kernel) (Nat.le_of_ble_eq_true rfl) rfl (fun _ hC => w_X6_layReasons hC hz hZ r1 v2 M hr1 hf)
set_option maxRecDepth 20000 in
theorem w_X6_layRow_b20 {X : XX} {G : GG} {Z : ZZ} {r : Unit} {M' : Mem} (hC : Cx X G RX6 cX6_layRow none 1 0 0 6) (hz : ZOk G Z) (hZ : ZM Z) (r1 : Nat) (v2 : Int32) (v4 : Int32) (hr1 : ArI r1) (k5 : Int32 → Int32 → Mem → Option (Unit × Mem)) (hk5 : ∀ (u3 : Int32) (u4 : Int32) (M : Mem), k5 u3 u4 M = some (r, M') → V X G Z M 0 0 (QN X G (QcV G Z r M') 0 0) 5 [(0, .ref (Z.1 27)), (1, .ref (Z.1 r1)), (2, .int v2), (3, .int u3), (4, .int u4)] []) (k20 : Int32 → Int32 → Mem → Option (Unit × Mem)) (hk20 : ∀ (u3 : Int32) (u5 : Int32) (M : Mem), k20 u3 u5 M = some (r, M') → V X G Z M 0 0 (QN X G (QcV G Z r M') 0 0) 20 [(0, .ref (Z.1 27)), (1, .ref (Z.1 r1)), (2, .int v2), (3, .int u3), (4, .int v4), (5, .int u5)] []) (v3 : Int32) (v5 : Int32) (M : Mem) (hf : f_X6_layRow_b20 r1 v2 v4 k5 k20 v3 v5 M = some (r, M')) : V X G Z M 0 0 (QN X G (QcV G Z r M') 0 0) 20 [(0, .ref (Z.1 27)), (1, .ref (Z.1 r1)), (2, .int v2), (3, .int v3), (4, .int v4), (5, .int v5)] [] := by
  unfold f_X6_layRow_b20 at hf
  refine r_iload hC dX6_layRow_20 5 rfl ?_
  refine r_if_lt 76 hC dX6_layRow_22 (by decide) (fun h => ?_) (fun h => ?_)
  · have hf := if_T hf h
    refine r_iinc (v := v4 + 1) (L' := [(4, .int (v4 + 1)), (0, .ref (Z.1 27)), (1, .ref (Z.1 r1)), (2, .int v2), (3, .int v3), (5, .int v5)]) hC dX6_layRow_76 4 rfl rfl (by decide) rfl ?_
    refine r_goto 5 hC dX6_layRow_79 (by decide) ?_
    refine r_L [1, 2, 3, 4, 0] rfl ?_
    exact hk5 _ _ _ hf
  · have hf := if_F hf h
    refine r_aload_n hC dX6_layRow_25 0 rfl ?_
    refine gf_X6_35 hC (z_1 hZ 27 (by decide) rfl) rfl dX6_layRow_26 ?_
    refine r_iload hC dX6_layRow_29 5 rfl ?_
    refine r_iload_n hC dX6_layRow_31 2 rfl ?_
    refine r_callSI [.ref (Z.1 36)] (fun r M1 h => c_X6_at (cx_st hC) hz hZ v5 v2 _  r M1 h) hf cs_X6_70 hC  rfl rfl (by decide) (by decide) (Nat.le_of_ble_eq_true rfl) (by decide) (by decide) dX6_layRow_32 (fun x1 M2 hf => ?_)
    have hin := if_K hf
    have hf := if_V hf
    refine r_iald hC (z_1 hZ 36 (by decide) rfl) (inb_vp hin) dX6_layRow_35 ?_
    refine r_iload hC dX6_layRow_36 4 rfl ?_
    refine r_icmp_ne 70 hC dX6_layRow_38 (by decide) (fun h => ?_) (fun h => ?_)
    · have hf := if_F hf h
      refine r_iinc (v := v5 + (-1)) (L' := [(5, .int (v5 + (-1))), (0, .ref (Z.1 27)), (1, .ref (Z.1 r1)), (2, .int v2), (3, .int v3), (4, .int v4)]) hC dX6_layRow_70 5 rfl rfl (by decide) rfl ?_
      refine r_goto 20 hC dX6_layRow_73 (by decide) ?_
      refine r_L [1, 2, 3, 4, 5, 0] rfl ?_
      exact hk20 _ _ _ hf
    · have hf := if_T hf h
      refine r_aload_n hC dX6_layRow_41 0 rfl ?_
      refine gf_X6_38 hC (z_1 hZ 27 (by decide) rfl) rfl dX6_layRow_42 ?_
      refine r_iload hC dX6_layRow_45 5 rfl ?_
      refine r_iload_n hC dX6_layRow_47 2 rfl ?_
      refine r_callSI [.ref (Z.1 37)] (fun r M1 h => c_X6_at (cx_st hC) hz hZ v5 v2 _  r M1 h) hf cs_X6_70 hC  rfl rfl (by decide) (by decide) (Nat.le_of_ble_eq_true rfl) (by decide) (by decide) dX6_layRow_48 (fun x3 M4 hf => ?_)
      have hin := if_K hf
      have hf := if_V hf
      refine r_iald hC (z_1 hZ 37 (by decide) rfl) (inb_vp hin) dX6_layRow_51 ?_
      refine r_if_ne 70 hC dX6_layRow_52 (by decide) (fun h => ?_) (fun h => ?_)
      · have hf := if_F hf h
        refine r_iinc (v := v5 + (-1)) (L' := [(5, .int (v5 + (-1))), (0, .ref (Z.1 27)), (1, .ref (Z.1 r1)), (2, .int v2), (3, .int v3), (4, .int v4)]) hC dX6_layRow_70 5 rfl rfl (by decide) rfl ?_
        refine r_goto 20 hC dX6_layRow_73 (by decide) ?_
        refine r_L [1, 2, 3, 4, 5, 0] rfl ?_
        exact hk20 _ _ _ hf
      · have hf := if_T hf h
        refine r_aload_n hC dX6_layRow_55 0 rfl ?_
        refine gf_X6_41 hC (z_1 hZ 27 (by decide) rfl) rfl dX6_layRow_56 ?_
        refine r_iconst (v := 4) hC dX6_layRow_59 rfl ?_
        refine r_iload_n hC dX6_layRow_60 2 rfl ?_
        refine r_imul hC dX6_layRow_61 ?_
        refine r_iload_n hC dX6_layRow_62 3 rfl ?_
        refine r_iadd hC dX6_layRow_63 ?_
        refine r_iload hC dX6_layRow_64 5 rfl ?_
        have hin := if_K hf
        have hf := if_V hf
        refine r_iast hC hz (z_1 hZ 38 (by decide) rfl) (inb_vp hin) dX6_layRow_66 ?_
        refine r_iinc (v := v3 + 1) (L' := [(3, .int (v3 + 1)), (0, .ref (Z.1 27)), (1, .ref (Z.1 r1)), (2, .int v2), (4, .int v4), (5, .int v5)]) hC dX6_layRow_67 3 rfl rfl (by decide) rfl ?_
        refine r_iinc (v := v5 + (-1)) (L' := [(5, .int (v5 + (-1))), (3, .int (v3 + 1)), (0, .ref (Z.1 27)), (1, .ref (Z.1 r1)), (2, .int v2), (4, .int v4)]) hC dX6_layRow_70 5 rfl rfl (by decide) rfl ?_
        refine r_goto 20 hC dX6_layRow_73 (by decide) ?_
        refine r_L [2, 3, 4, 1, 5, 0] rfl ?_
        exact hk20 _ _ _ hf
set_option maxRecDepth 20000 in
theorem w_X6_layRow_b82 {X : XX} {G : GG} {Z : ZZ} {r : Unit} {M' : Mem} (hC : Cx X G RX6 cX6_layRow none 1 0 0 6) (hz : ZOk G Z) (hZ : ZM Z) (v2 : Int32) (v3 : Int32) (M : Mem) (hf : f_X6_layRow_b82 v2 v3 M = some (r, M')) : V X G Z M 0 0 (QN X G (QcV G Z r M') 0 0) 82 [(0, .ref (Z.1 27)), (2, .int v2), (3, .int v3)] [] := by
  unfold f_X6_layRow_b82 at hf
  refine r_aload_n hC dX6_layRow_82 0 rfl ?_
  refine gf_X6_44 hC (z_1 hZ 27 (by decide) rfl) rfl dX6_layRow_83 ?_
  refine r_iload_n hC dX6_layRow_86 1 rfl ?_
  refine r_iload_n hC dX6_layRow_87 2 rfl ?_
  have hin := if_K hf
  have hf := if_V hf
  refine r_iast hC hz (z_1 hZ 39 (by decide) rfl) (inb_vp hin) dX6_layRow_88 ?_
  exact r_vret hf hC (by decide) (by decide) dX6_layRow_89
set_option maxRecDepth 20000 in
theorem w_X6_layRow_b5 {X : XX} {G : GG} {Z : ZZ} {r : Unit} {M' : Mem} (hC : Cx X G RX6 cX6_layRow none 1 0 0 6) (hz : ZOk G Z) (hZ : ZM Z) (r1 : Nat) (v2 : Int32) (hr1 : ArI r1) (k5 : Int32 → Int32 → Mem → Option (Unit × Mem)) (hk5 : ∀ (u3 : Int32) (u4 : Int32) (M : Mem), k5 u3 u4 M = some (r, M') → V X G Z M 0 0 (QN X G (QcV G Z r M') 0 0) 5 [(0, .ref (Z.1 27)), (1, .ref (Z.1 r1)), (2, .int v2), (3, .int u3), (4, .int u4)] []) (v3 : Int32) (v4 : Int32) (M : Mem) (hf : f_X6_layRow_b5 r1 v2 k5 v3 v4 M = some (r, M')) : V X G Z M 0 0 (QN X G (QcV G Z r M') 0 0) 5 [(0, .ref (Z.1 27)), (1, .ref (Z.1 r1)), (2, .int v2), (3, .int v3), (4, .int v4)] [] := by
  unfold f_X6_layRow_b5 at hf
  refine r_iload hC dX6_layRow_5 4 rfl ?_
  refine r_bipush (v := 60) hC dX6_layRow_7 rfl ?_
  refine r_icmp_gt 82 hC dX6_layRow_9 (by decide) (fun h => ?_) (fun h => ?_)
  · have hf := if_T hf h
    refine r_L [0, 2, 3] rfl ?_
    exact w_X6_layRow_b82 hC hz hZ v2 v3 _ hf
  · have hf := if_F hf h
    refine r_aload_n hC dX6_layRow_12 1 rfl ?_
    refine r_bipush (v := 6) hC dX6_layRow_13 rfl ?_
    have hin := if_K hf
    have hf := if_V hf
    refine r_iald hC (z_r hZ hr1) (inb_vp hin) dX6_layRow_15 ?_
    refine r_iconst (v := 1) hC dX6_layRow_16 rfl ?_
    refine r_isub hC dX6_layRow_17 ?_
    refine r_istore (L' := [(5, .int ((M r1 (Int32.toNatClampNeg 6)) - 1)), (0, .ref (Z.1 27)), (1, .ref (Z.1 r1)), (2, .int v2), (3, .int v3), (4, .int v4)]) hC dX6_layRow_18 (by decide) rfl ?_
    refine r_L [1, 2, 3, 4, 5, 0] rfl ?_
    exact lq2_ind (P := fun (u3 : Int32) (u5 : Int32) (M : Mem) => V X G Z M 0 0 (QN X G (QcV G Z r M') 0 0) 20 [(0, .ref (Z.1 27)), (1, .ref (Z.1 r1)), (2, .int v2), (3, .int u3), (4, .int v4), (5, .int u5)] []) (fun kk hkk u3 u5 M hf => w_X6_layRow_b20 hC hz hZ r1 v2 v4 hr1 k5 hk5 kk hkk u3 u5 M hf) _ _ _ _ hf
set_option maxRecDepth 20000 in
theorem w_X6_layRow {X : XX} {G : GG} {Z : ZZ} (hC : Cx X G RX6 cX6_layRow none 1 0 0 6) (hz : ZOk G Z) (hZ : ZM Z) (r1 : Nat) (v2 : Int32) (M : Mem) (hr1 : ArI r1) {r : Unit} {M' : Mem} (hf : f_X6_layRow r1 v2 M = some (r, M')) : V X G Z M 0 0 (QN X G (QcV G Z r M') 0 0) 0 [(0, .ref (Z.1 27)), (1, .ref (Z.1 r1)), (2, .int v2)] [] := by
  unfold f_X6_layRow at hf
  refine r_iconst (v := 0) hC dX6_layRow_0 rfl ?_
  refine r_istore_n (L' := [(3, .int 0), (0, .ref (Z.1 27)), (1, .ref (Z.1 r1)), (2, .int v2)]) hC dX6_layRow_1 (by decide) rfl ?_
  refine r_iconst (v := 0) hC dX6_layRow_2 rfl ?_
  refine r_istore (L' := [(4, .int 0), (3, .int 0), (0, .ref (Z.1 27)), (1, .ref (Z.1 r1)), (2, .int v2)]) hC dX6_layRow_3 (by decide) rfl ?_
  refine r_L [2, 3, 4, 1, 0] rfl ?_
  exact lq2_ind (P := fun (u3 : Int32) (u4 : Int32) (M : Mem) => V X G Z M 0 0 (QN X G (QcV G Z r M') 0 0) 5 [(0, .ref (Z.1 27)), (1, .ref (Z.1 r1)), (2, .int v2), (3, .int u3), (4, .int u4)] []) (fun kk hkk u3 u4 M hf => w_X6_layRow_b5 hC hz hZ r1 v2 hr1 kk hkk u3 u4 M hf) _ _ _ _ hf
set_option maxRecDepth 20000 in
theorem c_X6_layRow {l : Launch} (hl : l.stackTraces = false) {G : GG} {Z : ZZ} (hz : ZOk G Z) (hZ : ZM Z) (r1 : Nat) (v2 : Int32) (M : Mem) (hr1 : ArI r1) (r : Unit) (M' : Mem) (hf : f_X6_layRow r1 v2 M = some (r, M')) : CN (QcV G Z r M') l G Z yX6_layRow cX6_layRow 6 none 1 [.ref (Z.1 27), .ref (Z.1 r1), .int v2] M :=
  CN.of [(0, .ref (Z.1 27)), (1, .ref (Z.1 r1)), (2, .int v2)] hl (by decide +kernel) (Nat.le_of_ble_eq_true rfl) rfl (fun _ hC => w_X6_layRow hC hz hZ r1 v2 M hr1 hf)
set_option maxRecDepth 20000 in
theorem w_X6_pitchOf {X : XX} {G : GG} {Z : ZZ} (hC : Cx X G RX6 cX6_pitchOf (some .int) 1 0 0 3) (hz : ZOk G Z) (hZ : ZM Z) (v1 : Int32) (v2 : Int32) (M : Mem)  {r : Int32} {M' : Mem} (hf : f_X6_pitchOf v1 v2 M = some (r, M')) : V X G Z M 0 0 (QN X G (QcI G Z r M') 0 0) 0 [(0, .ref (Z.1 27)), (1, .int v1), (2, .int v2)] [] := by
  unfold f_X6_pitchOf at hf
  refine r_aload_n hC dX6_pitchOf_0 0 rfl ?_
  refine gf_X6_35 hC (z_1 hZ 27 (by decide) rfl) rfl dX6_pitchOf_1 ?_
  refine r_aload_n hC dX6_pitchOf_4 0 rfl ?_
  refine gf_X6_41 hC (z_1 hZ 27 (by decide) rfl) rfl dX6_pitchOf_5 ?_
  refine r_iconst (v := 4) hC dX6_pitchOf_8 rfl ?_
  refine r_iload_n hC dX6_pitchOf_9 1 rfl ?_
  refine r_imul hC dX6_pitchOf_10 ?_
  refine r_iload_n hC dX6_pitchOf_11 2 rfl ?_
  refine r_iadd hC dX6_pitchOf_12 ?_
  have hin := if_K hf
  have hf := if_V hf
  refine r_iald hC (z_1 hZ 38 (by decide) rfl) (inb_vp hin) dX6_pitchOf_13 ?_
  refine r_iload_n hC dX6_pitchOf_14 1 rfl ?_
  refine r_callSI [.ref (Z.1 36)] (fun r M1 h => c_X6_at (cx_st hC) hz hZ (M 38 (Int32.toNatClampNeg ((4 * v1) + v2))) v1 _  r M1 h) hf cs_X6_70 hC  rfl rfl (by decide) (by decide) (Nat.le_of_ble_eq_true rfl) (by decide) (by decide) dX6_pitchOf_15 (fun x1 M2 hf => ?_)
  have hin := if_K hf
  have hf := if_V hf
  refine r_iald hC (z_1 hZ 36 (by decide) rfl) (inb_vp hin) dX6_pitchOf_18 ?_
  exact r_iret hf hC (by decide) (by decide) dX6_pitchOf_19
set_option maxRecDepth 20000 in
theorem c_X6_pitchOf {l : Launch} (hl : l.stackTraces = false) {G : GG} {Z : ZZ} (hz : ZOk G Z) (hZ : ZM Z) (v1 : Int32) (v2 : Int32) (M : Mem)  (r : Int32) (M' : Mem) (hf : f_X6_pitchOf v1 v2 M = some (r, M')) : CN (QcI G Z r M') l G Z yX6_pitchOf cX6_pitchOf 3 (some .int) 1 [.ref (Z.1 27), .int v1, .int v2] M :=
  CN.of [(0, .ref (Z.1 27)), (1, .int v1), (2, .int v2)] hl (by decide +kernel) (Nat.le_of_ble_eq_true rfl) rfl (fun _ hC => w_X6_pitchOf hC hz hZ v1 v2 M  hf)
set_option maxRecDepth 20000 in
theorem w_X6_width {X : XX} {G : GG} {Z : ZZ} (hC : Cx X G RX6 cX6_width (some .int) 2 0 0 4) (hz : ZOk G Z) (hZ : ZM Z) (v1 : Int32) (v2 : Int32) (v3 : Int32) (M : Mem)  {r : Int32} {M' : Mem} (hf : f_X6_width v1 v2 v3 M = some (r, M')) : V X G Z M 0 0 (QN X G (QcI G Z r M') 0 0) 0 [(0, .ref (Z.1 27)), (1, .int v1), (2, .int v2), (3, .int v3)] [] := by
  unfold f_X6_width at hf
  refine r_iload_n hC dX6_width_0 3 rfl ?_
  refine r_iload_n hC dX6_width_1 2 rfl ?_
  refine r_icmp_le 23 hC dX6_width_2 (by decide) (fun h => ?_) (fun h => ?_)
  · have hf := if_T hf h
    refine r_iconst (v := 0) hC dX6_width_23 rfl ?_
    exact r_iret hf hC (by decide) (by decide) dX6_width_24
  · have hf := if_F hf h
    refine r_aload_n hC dX6_width_5 0 rfl ?_
    refine r_iload_n hC dX6_width_6 1 rfl ?_
    refine r_iload_n hC dX6_width_7 3 rfl ?_
    refine r_iconst (v := 1) hC dX6_width_8 rfl ?_
    refine r_isub hC dX6_width_9 ?_
    refine r_callVI [] (fun r M1 h => c_X6_pitchOf (cx_st hC) hz hZ v1 (v3 - 1) _  r M1 h) hf cs_X6_86 hC (z_1 hZ 27 (by decide) rfl) (q0 := (RX6, TX6, 19)) rfl rfl [.int v1, .int (v3 - 1)] rfl rfl rfl (by decide) (by decide) (Nat.le_of_ble_eq_true rfl) (by decide) (by decide) dX6_width_10 (fun x1 M2 hf => ?_)
    refine r_aload_n hC dX6_width_13 0 rfl ?_
    refine r_iload_n hC dX6_width_14 1 rfl ?_
    refine r_iload_n hC dX6_width_15 2 rfl ?_
    refine r_callVI [.int x1] (fun r M1 h => c_X6_pitchOf (cx_st hC) hz hZ v1 v2 _  r M1 h) hf cs_X6_86 hC (z_1 hZ 27 (by decide) rfl) (q0 := (RX6, TX6, 19)) rfl rfl [.int v1, .int v2] rfl rfl rfl (by decide) (by decide) (Nat.le_of_ble_eq_true rfl) (by decide) (by decide) dX6_width_16 (fun x3 M4 hf => ?_)
    refine r_isub hC dX6_width_19 ?_
    refine r_goto 24 hC dX6_width_20 (by decide) ?_
    exact r_iret hf hC (by decide) (by decide) dX6_width_24
set_option maxRecDepth 20000 in
theorem c_X6_width {l : Launch} (hl : l.stackTraces = false) {G : GG} {Z : ZZ} (hz : ZOk G Z) (hZ : ZM Z) (v1 : Int32) (v2 : Int32) (v3 : Int32) (M : Mem)  (r : Int32) (M' : Mem) (hf : f_X6_width v1 v2 v3 M = some (r, M')) : CN (QcI G Z r M') l G Z yX6_width cX6_width 4 (some .int) 2 [.ref (Z.1 27), .int v1, .int v2, .int v3] M :=
  CN.of [(0, .ref (Z.1 27)), (1, .int v1), (2, .int v2), (3, .int v3)] hl (by decide +kernel) (Nat.le_of_ble_eq_true rfl) rfl (fun _ hC => w_X6_width hC hz hZ v1 v2 v3 M  hf)
set_option maxRecDepth 20000 in
theorem w_X6_canPlay_b39 {X : XX} {G : GG} {Z : ZZ} {r : Int32} {M' : Mem} (hC : Cx X G RX6 cX6_canPlay (some .boolean) 3 0 0 8) (hz : ZOk G Z) (hZ : ZM Z) (r1 : Nat) (v2 : Int32) (v3 : Int32) (v4 : Int32) (v5 : Int32) (v7 : Int32) (hr1 : ArI r1) (k7 : Int32 → Int32 → Mem → Option (Int32 × Mem)) (hk7 : ∀ (u6 : Int32) (u7 : Int32) (M : Mem), k7 u6 u7 M = some (r, M') → V X G Z M 0 0 (QN X G (QcI G Z r M') 0 0) 7 [(0, .ref (Z.1 27)), (1, .ref (Z.1 r1)), (2, .int v2), (3, .int v3), (4, .int v4), (5, .int v5), (6, .int u6), (7, .int u7)] []) (M : Mem) (hf : f_X6_canPlay_b39 r1 v2 v3 v4 v5 v7 k7 M = some (r, M')) : V X G Z M 0 0 (QN X G (QcI G Z r M') 0 0) 39 [(0, .ref (Z.1 27)), (1, .ref (Z.1 r1)), (2, .int v2), (3, .int v3), (4, .int v4), (5, .int v5), (7, .int v7)] [] := by
  unfold f_X6_canPlay_b39 at hf
  refine r_iconst (v := 1) hC dX6_canPlay_39 rfl ?_
  refine r_goto 44 hC dX6_canPlay_40 (by decide) ?_
  refine r_istore (L' := [(6, .int 1), (0, .ref (Z.1 27)), (1, .ref (Z.1 r1)), (2, .int v2), (3, .int v3), (4, .int v4), (5, .int v5), (7, .int v7)]) hC dX6_canPlay_44 (by decide) rfl ?_
  refine r_iinc (v := v7 + 1) (L' := [(7, .int (v7 + 1)), (6, .int 1), (0, .ref (Z.1 27)), (1, .ref (Z.1 r1)), (2, .int v2), (3, .int v3), (4, .int v4), (5, .int v5)]) hC dX6_canPlay_46 7 rfl rfl (by decide) rfl ?_
  refine r_goto 7 hC dX6_canPlay_49 (by decide) ?_
  refine r_L [2, 3, 4, 5, 6, 7, 1, 0] rfl ?_
  exact hk7 _ _ _ hf
set_option maxRecDepth 20000 in
theorem w_X6_canPlay_b87 {X : XX} {G : GG} {Z : ZZ} {r : Int32} {M' : Mem} (hC : Cx X G RX6 cX6_canPlay (some .boolean) 3 0 0 8) (hz : ZOk G Z) (hZ : ZM Z) (s0 : Int32) (s1 : Int32) (s2 : Int32) (M : Mem) (hf : f_X6_canPlay_b87 s0 s1 s2 M = some (r, M')) : V X G Z M 0 0 (QN X G (QcI G Z r M') 0 0) 87 [] [.int s0, .int s1, .int s2] := by
  unfold f_X6_canPlay_b87 at hf
  refine r_iadd hC dX6_canPlay_87 ?_
  refine r_icmp_gt 95 hC dX6_canPlay_88 (by decide) (fun h => ?_) (fun h => ?_)
  · have hf := if_T hf h
    refine r_iconst (v := 0) hC dX6_canPlay_95 rfl ?_
    exact r_zret hf hC rfl rfl (by decide) (by decide) dX6_canPlay_96
  · have hf := if_F hf h
    refine r_iconst (v := 1) hC dX6_canPlay_91 rfl ?_
    refine r_goto 96 hC dX6_canPlay_92 (by decide) ?_
    exact r_zret hf hC rfl rfl (by decide) (by decide) dX6_canPlay_96
set_option maxRecDepth 20000 in
theorem w_X6_canPlay_b52 {X : XX} {G : GG} {Z : ZZ} {r : Int32} {M' : Mem} (hC : Cx X G RX6 cX6_canPlay (some .boolean) 3 0 0 8) (hz : ZOk G Z) (hZ : ZM Z) (r1 : Nat) (v2 : Int32) (v3 : Int32) (v4 : Int32) (v5 : Int32) (v6 : Int32) (hr1 : ArI r1) (M : Mem) (hf : f_X6_canPlay_b52 r1 v2 v3 v4 v5 v6 M = some (r, M')) : V X G Z M 0 0 (QN X G (QcI G Z r M') 0 0) 52 [(0, .ref (Z.1 27)), (1, .ref (Z.1 r1)), (2, .int v2), (3, .int v3), (4, .int v4), (5, .int v5), (6, .int v6)] [] := by
  unfold f_X6_canPlay_b52 at hf
  refine r_iload hC dX6_canPlay_52 5 rfl ?_
  refine r_iload hC dX6_canPlay_54 4 rfl ?_
  refine r_isub hC dX6_canPlay_56 ?_
  refine r_aload_n hC dX6_canPlay_57 1 rfl ?_
  refine r_iconst (v := 2) hC dX6_canPlay_58 rfl ?_
  have hin := if_K hf
  have hf := if_V hf
  refine r_iald hC (z_r hZ hr1) (inb_vp hin) dX6_canPlay_59 ?_
  refine r_icmp_gt 95 hC dX6_canPlay_60 (by decide) (fun h => ?_) (fun h => ?_)
  · have hf := if_T hf h
    refine r_iconst (v := 0) hC dX6_canPlay_95 rfl ?_
    exact r_zret hf hC rfl rfl (by decide) (by decide) dX6_canPlay_96
  · have hf := if_F hf h
    refine r_aload_n hC dX6_canPlay_63 0 rfl ?_
    refine r_iload_n hC dX6_canPlay_64 3 rfl ?_
    refine r_iload hC dX6_canPlay_65 4 rfl ?_
    refine r_iload hC dX6_canPlay_67 5 rfl ?_
    refine r_callVI [] (fun r M1 h => c_X6_width (cx_st hC) hz hZ v3 v4 v5 _  r M1 h) hf cs_X6_89 hC (z_1 hZ 27 (by decide) rfl) (q0 := (RX6, TX6, 19)) rfl rfl [.int v3, .int v4, .int v5] rfl rfl rfl (by decide) (by decide) (Nat.le_of_ble_eq_true rfl) (by decide) (by decide) dX6_canPlay_69 (fun x3 M4 hf => ?_)
    refine r_aload_n hC dX6_canPlay_72 1 rfl ?_
    refine r_iload_n hC dX6_canPlay_73 2 rfl ?_
    have hin := if_K hf
    have hf := if_V hf
    refine r_iald hC (z_r hZ hr1) (inb_vp hin) dX6_canPlay_74 ?_
    refine r_iload hC dX6_canPlay_75 6 rfl ?_
    refine r_if_eq 84 hC dX6_canPlay_77 (by decide) (fun h => ?_) (fun h => ?_)
    · have hf := if_T hf h
      refine r_aload_n hC dX6_canPlay_84 1 rfl ?_
      refine r_iconst (v := 3) hC dX6_canPlay_85 rfl ?_
      have hin := if_K hf
      have hf := if_V hf
      refine r_iald hC (z_r hZ hr1) (inb_vp hin) dX6_canPlay_86 ?_
      refine r_L [] rfl ?_
      exact w_X6_canPlay_b87 hC hz hZ (M4 r1 (Int32.toNatClampNeg 3)) (M4 r1 (Int32.toNatClampNeg v2)) x3 _ hf
    · have hf := if_F hf h
      refine r_iconst (v := 0) hC dX6_canPlay_80 rfl ?_
      refine r_goto 87 hC dX6_canPlay_81 (by decide) ?_
      refine r_L [] rfl ?_
      exact w_X6_canPlay_b87 hC hz hZ 0 (M4 r1 (Int32.toNatClampNeg v2)) x3 _ hf
set_option maxRecDepth 20000 in
theorem w_X6_canPlay_b7 {X : XX} {G : GG} {Z : ZZ} {r : Int32} {M' : Mem} (hC : Cx X G RX6 cX6_canPlay (some .boolean) 3 0 0 8) (hz : ZOk G Z) (hZ : ZM Z) (r1 : Nat) (v2 : Int32) (v3 : Int32) (v4 : Int32) (v5 : Int32) (hr1 : ArI r1) (k7 : Int32 → Int32 → Mem → Option (Int32 × Mem)) (hk7 : ∀ (u6 : Int32) (u7 : Int32) (M : Mem), k7 u6 u7 M = some (r, M') → V X G Z M 0 0 (QN X G (QcI G Z r M') 0 0) 7 [(0, .ref (Z.1 27)), (1, .ref (Z.1 r1)), (2, .int v2), (3, .int v3), (4, .int v4), (5, .int v5), (6, .int u6), (7, .int u7)] []) (v6 : Int32) (v7 : Int32) (M : Mem) (hf : f_X6_canPlay_b7 r1 v2 v3 v4 v5 k7 v6 v7 M = some (r, M')) : V X G Z M 0 0 (QN X G (QcI G Z r M') 0 0) 7 [(0, .ref (Z.1 27)), (1, .ref (Z.1 r1)), (2, .int v2), (3, .int v3), (4, .int v4), (5, .int v5), (6, .int v6), (7, .int v7)] [] := by
  unfold f_X6_canPlay_b7 at hf
  refine r_iload hC dX6_canPlay_7 7 rfl ?_
  refine r_iload hC dX6_canPlay_9 5 rfl ?_
  refine r_icmp_ge 52 hC dX6_canPlay_11 (by decide) (fun h => ?_) (fun h => ?_)
  · have hf := if_T hf h
    refine r_L [0, 1, 2, 3, 4, 5, 6] rfl ?_
    exact w_X6_canPlay_b52 hC hz hZ r1 v2 v3 v4 v5 v6 hr1 _ hf
  · have hf := if_F hf h
    refine r_iload hC dX6_canPlay_14 6 rfl ?_
    refine r_if_ne 39 hC dX6_canPlay_16 (by decide) (fun h => ?_) (fun h => ?_)
    · have hf := if_F hf h
      refine r_L [0, 1, 2, 3, 4, 5, 7] rfl ?_
      exact w_X6_canPlay_b39 hC hz hZ r1 v2 v3 v4 v5 v7 hr1 k7 hk7 _ hf
    · have hf := if_T hf h
      refine r_aload_n hC dX6_canPlay_19 0 rfl ?_
      refine r_aload_n hC dX6_canPlay_20 1 rfl ?_
      refine r_aload_n hC dX6_canPlay_21 0 rfl ?_
      refine gf_X6_41 hC (z_1 hZ 27 (by decide) rfl) rfl dX6_canPlay_22 ?_
      refine r_iconst (v := 4) hC dX6_canPlay_25 rfl ?_
      refine r_iload_n hC dX6_canPlay_26 3 rfl ?_
      refine r_imul hC dX6_canPlay_27 ?_
      refine r_iload hC dX6_canPlay_28 7 rfl ?_
      refine r_iadd hC dX6_canPlay_30 ?_
      have hin := if_K hf
      have hf := if_V hf
      refine r_iald hC (z_1 hZ 38 (by decide) rfl) (inb_vp hin) dX6_canPlay_31 ?_
      refine r_iload_n hC dX6_canPlay_32 3 rfl ?_
      refine r_callVI [] (fun r M1 h => c_X6_isHeld (cx_st hC) hz hZ r1 (M 38 (Int32.toNatClampNeg ((4 * v3) + v7))) v3 _ hr1 r M1 h) hf cs_X6_74 hC (z_1 hZ 27 (by decide) rfl) (q0 := (RX6, TX6, 19)) rfl rfl [.ref (Z.1 r1), .int (M 38 (Int32.toNatClampNeg ((4 * v3) + v7))), .int v3] rfl rfl rfl (by decide) (by decide) (Nat.le_of_ble_eq_true rfl) (by decide) (by decide) dX6_canPlay_33 (fun x1 M2 hf => ?_)
      refine r_if_eq 43 hC dX6_canPlay_36 (by decide) (fun h => ?_) (fun h => ?_)
      · have hf := if_T hf h
        refine r_iconst (v := 0) hC dX6_canPlay_43 rfl ?_
        refine r_istore (L' := [(6, .int 0), (0, .ref (Z.1 27)), (1, .ref (Z.1 r1)), (2, .int v2), (3, .int v3), (4, .int v4), (5, .int v5), (7, .int v7)]) hC dX6_canPlay_44 (by decide) rfl ?_
        refine r_iinc (v := v7 + 1) (L' := [(7, .int (v7 + 1)), (6, .int 0), (0, .ref (Z.1 27)), (1, .ref (Z.1 r1)), (2, .int v2), (3, .int v3), (4, .int v4), (5, .int v5)]) hC dX6_canPlay_46 7 rfl rfl (by decide) rfl ?_
        refine r_goto 7 hC dX6_canPlay_49 (by decide) ?_
        refine r_L [2, 3, 4, 5, 6, 7, 1, 0] rfl ?_
        exact hk7 _ _ _ hf
      · have hf := if_F hf h
        refine r_L [0, 1, 2, 3, 4, 5, 7] rfl ?_
        exact w_X6_canPlay_b39 hC hz hZ r1 v2 v3 v4 v5 v7 hr1 k7 hk7 _ hf
set_option maxRecDepth 20000 in
theorem w_X6_canPlay {X : XX} {G : GG} {Z : ZZ} (hC : Cx X G RX6 cX6_canPlay (some .boolean) 3 0 0 8) (hz : ZOk G Z) (hZ : ZM Z) (r1 : Nat) (v2 : Int32) (v3 : Int32) (v4 : Int32) (v5 : Int32) (M : Mem) (hr1 : ArI r1) {r : Int32} {M' : Mem} (hf : f_X6_canPlay r1 v2 v3 v4 v5 M = some (r, M')) : V X G Z M 0 0 (QN X G (QcI G Z r M') 0 0) 0 [(0, .ref (Z.1 27)), (1, .ref (Z.1 r1)), (2, .int v2), (3, .int v3), (4, .int v4), (5, .int v5)] [] := by
  unfold f_X6_canPlay at hf
  refine r_iconst (v := 0) hC dX6_canPlay_0 rfl ?_
  refine r_istore (L' := [(6, .int 0), (0, .ref (Z.1 27)), (1, .ref (Z.1 r1)), (2, .int v2), (3, .int v3), (4, .int v4), (5, .int v5)]) hC dX6_canPlay_1 (by decide) rfl ?_
  refine r_iload hC dX6_canPlay_3 5 rfl ?_
  refine r_istore (L' := [(7, .int v4), (6, .int 0), (0, .ref (Z.1 27)), (1, .ref (Z.1 r1)), (2, .int v2), (3, .int v3), (4, .int v4), (5, .int v5)]) hC dX6_canPlay_5 (by decide) rfl ?_
  refine r_L [2, 3, 4, 5, 6, 7, 1, 0] rfl ?_
  exact lq2_ind (P := fun (u6 : Int32) (u7 : Int32) (M : Mem) => V X G Z M 0 0 (QN X G (QcI G Z r M') 0 0) 7 [(0, .ref (Z.1 27)), (1, .ref (Z.1 r1)), (2, .int v2), (3, .int v3), (4, .int v4), (5, .int v5), (6, .int u6), (7, .int u7)] []) (fun kk hkk u6 u7 M hf => w_X6_canPlay_b7 hC hz hZ r1 v2 v3 v4 v5 hr1 kk hkk u6 u7 M hf) _ _ _ _ hf
set_option maxRecDepth 20000 in
theorem c_X6_canPlay {l : Launch} (hl : l.stackTraces = false) {G : GG} {Z : ZZ} (hz : ZOk G Z) (hZ : ZM Z) (r1 : Nat) (v2 : Int32) (v3 : Int32) (v4 : Int32) (v5 : Int32) (M : Mem) (hr1 : ArI r1) (r : Int32) (M' : Mem) (hf : f_X6_canPlay r1 v2 v3 v4 v5 M = some (r, M')) : CN (QcI G Z r M') l G Z yX6_canPlay cX6_canPlay 8 (some .boolean) 3 [.ref (Z.1 27), .ref (Z.1 r1), .int v2, .int v3, .int v4, .int v5] M :=
  CN.of [(0, .ref (Z.1 27)), (1, .ref (Z.1 r1)), (2, .int v2), (3, .int v3), (4, .int v4), (5, .int v5)] hl (by decide +kernel) (Nat.le_of_ble_eq_true rfl) rfl (fun _ hC => w_X6_canPlay hC hz hZ r1 v2 v3 v4 v5 M hr1 hf)
set_option maxRecDepth 20000 in
theorem w_X6_layPossible_b53 {X : XX} {G : GG} {Z : ZZ} {r : Unit} {M' : Mem} (hC : Cx X G RX6 cX6_layPossible none 4 0 0 5) (hz : ZOk G Z) (hZ : ZM Z) (r1 : Nat) (v2 : Int32) (v3 : Int32) (hr1 : ArI r1) (k9 : Int32 → Mem → Option (Unit × Mem)) (hk9 : ∀ (u3 : Int32) (M : Mem), k9 u3 M = some (r, M') → V X G Z M 0 0 (QN X G (QcV G Z r M') 0 0) 9 [(0, .ref (Z.1 27)), (1, .ref (Z.1 r1)), (2, .int v2), (3, .int u3)] []) (s0 : Int32) (M : Mem) (hf : f_X6_layPossible_b53 r1 v2 v3 k9 s0 M = some (r, M')) : V X G Z M 0 0 (QN X G (QcV G Z r M') 0 0) 53 [(0, .ref (Z.1 27)), (1, .ref (Z.1 r1)), (2, .int v2), (3, .int v3)] [.int s0] := by
  unfold f_X6_layPossible_b53 at hf
  refine r_istore (L' := [(4, .int s0), (0, .ref (Z.1 27)), (1, .ref (Z.1 r1)), (2, .int v2), (3, .int v3)]) hC dX6_layPossible_53 (by decide) rfl ?_
  refine r_aload_n hC dX6_layPossible_55 1 rfl ?_
  refine gf_X6_47 hC (z_1 hZ 27 (by decide) rfl) rfl dX6_layPossible_56 ?_
  refine r_iload_n hC dX6_layPossible_59 3 rfl ?_
  refine r_dup2 hC dX6_layPossible_60 rfl rfl ?_
  have hin := if_K hf
  have hf := if_V hf
  refine r_iald hC (z_1 hZ 40 (by decide) rfl) (inb_vp hin) dX6_layPossible_61 ?_
  refine r_iload hC dX6_layPossible_62 0 rfl ?_
  refine r_if_eq 73 hC dX6_layPossible_64 (by decide) (fun h => ?_) (fun h => ?_)
  · have hf := if_T hf h
    refine r_iconst (v := 0) hC dX6_layPossible_73 rfl ?_
    refine r_ior hC dX6_layPossible_74 ?_
    have hin := if_K hf
    have hf := if_V hf
    refine r_iast hC hz (z_1 hZ 40 (by decide) rfl) (inb_vp hin) dX6_layPossible_75 ?_
    refine r_iinc (v := v3 + 1) (L' := [(3, .int (v3 + 1)), (4, .int s0), (0, .ref (Z.1 27)), (1, .ref (Z.1 r1)), (2, .int v2)]) hC dX6_layPossible_76 4 rfl rfl (by decide) rfl ?_
    refine r_goto 9 hC dX6_layPossible_79 (by decide) ?_
    refine r_L [2, 3, 4, 0] rfl ?_
    exact hk9 _ _ hf
  · have hf := if_F hf h
    refine r_iconst (v := 1) hC dX6_layPossible_67 rfl ?_
    refine r_iload_n hC dX6_layPossible_68 4 rfl ?_
    refine r_ishl hC dX6_layPossible_69 ?_
    refine r_goto 74 hC dX6_layPossible_70 (by decide) ?_
    refine r_ior hC dX6_layPossible_74 ?_
    have hin := if_K hf
    have hf := if_V hf
    refine r_iast hC hz (z_1 hZ 40 (by decide) rfl) (inb_vp hin) dX6_layPossible_75 ?_
    refine r_iinc (v := v3 + 1) (L' := [(3, .int (v3 + 1)), (4, .int s0), (0, .ref (Z.1 27)), (1, .ref (Z.1 r1)), (2, .int v2)]) hC dX6_layPossible_76 4 rfl rfl (by decide) rfl ?_
    refine r_goto 9 hC dX6_layPossible_79 (by decide) ?_
    refine r_L [2, 3, 4, 0] rfl ?_
    exact hk9 _ _ hf
set_option maxRecDepth 20000 in
theorem w_X6_layPossible_b52 {X : XX} {G : GG} {Z : ZZ} {r : Unit} {M' : Mem} (hC : Cx X G RX6 cX6_layPossible none 4 0 0 5) (hz : ZOk G Z) (hZ : ZM Z) (r1 : Nat) (v2 : Int32) (v3 : Int32) (hr1 : ArI r1) (k9 : Int32 → Mem → Option (Unit × Mem)) (hk9 : ∀ (u3 : Int32) (M : Mem), k9 u3 M = some (r, M') → V X G Z M 0 0 (QN X G (QcV G Z r M') 0 0) 9 [(0, .ref (Z.1 27)), (1, .ref (Z.1 r1)), (2, .int v2), (3, .int u3)] []) (M : Mem) (hf : f_X6_layPossible_b52 r1 v2 v3 k9 M = some (r, M')) : V X G Z M 0 0 (QN X G (QcV G Z r M') 0 0) 52 [(0, .ref (Z.1 27)), (1, .ref (Z.1 r1)), (2, .int v2), (3, .int v3)] [] := by
  unfold f_X6_layPossible_b52 at hf
  refine r_iconst (v := 0) hC dX6_layPossible_52 rfl ?_
  exact w_X6_layPossible_b53 hC hz hZ r1 v2 v3 hr1 k9 hk9 0 _ hf
set_option maxRecDepth 20000 in
theorem w_X6_layPossible_b9 {X : XX} {G : GG} {Z : ZZ} {r : Unit} {M' : Mem} (hC : Cx X G RX6 cX6_layPossible none 4 0 0 5) (hz : ZOk G Z) (hZ : ZM Z) (r1 : Nat) (v2 : Int32) (hr1 : ArI r1) (k9 : Int32 → Mem → Option (Unit × Mem)) (hk9 : ∀ (u3 : Int32) (M : Mem), k9 u3 M = some (r, M') → V X G Z M 0 0 (QN X G (QcV G Z r M') 0 0) 9 [(0, .ref (Z.1 27)), (1, .ref (Z.1 r1)), (2, .int v2), (3, .int u3)] []) (v3 : Int32) (M : Mem) (hf : f_X6_layPossible_b9 r1 v2 k9 v3 M = some (r, M')) : V X G Z M 0 0 (QN X G (QcV G Z r M') 0 0) 9 [(0, .ref (Z.1 27)), (1, .ref (Z.1 r1)), (2, .int v2), (3, .int v3)] [] := by
  unfold f_X6_layPossible_b9 at hf
  refine r_iload_n hC dX6_layPossible_9 3 rfl ?_
  refine r_aload_n hC dX6_layPossible_10 0 rfl ?_
  refine gf_X6_44 hC (z_1 hZ 27 (by decide) rfl) rfl dX6_layPossible_11 ?_
  refine r_iload_n hC dX6_layPossible_14 2 rfl ?_
  have hin := if_K hf
  have hf := if_V hf
  refine r_iald hC (z_1 hZ 39 (by decide) rfl) (inb_vp hin) dX6_layPossible_15 ?_
  refine r_icmp_gt 82 hC dX6_layPossible_16 (by decide) (fun h => ?_) (fun h => ?_)
  · have hf := if_T hf h
    exact r_vret hf hC (by decide) (by decide) dX6_layPossible_82
  · have hf := if_F hf h
    refine r_aload_n hC dX6_layPossible_19 0 rfl ?_
    refine r_aload_n hC dX6_layPossible_20 1 rfl ?_
    refine r_iconst (v := 0) hC dX6_layPossible_21 rfl ?_
    refine r_iload_n hC dX6_layPossible_22 2 rfl ?_
    refine r_iconst (v := 0) hC dX6_layPossible_23 rfl ?_
    refine r_iload_n hC dX6_layPossible_24 3 rfl ?_
    refine r_callVI [] (fun r M1 h => c_X6_canPlay (cx_st hC) hz hZ r1 0 v2 0 v3 _ hr1 r M1 h) hf cs_X6_93 hC (z_1 hZ 27 (by decide) rfl) (q0 := (RX6, TX6, 19)) rfl rfl [.ref (Z.1 r1), .int 0, .int v2, .int 0, .int v3] rfl rfl rfl (by decide) (by decide) (Nat.le_of_ble_eq_true rfl) (by decide) (by decide) dX6_layPossible_25 (fun x1 M2 hf => ?_)
    refine r_if_eq 52 hC dX6_layPossible_28 (by decide) (fun h => ?_) (fun h => ?_)
    · have hf := if_T hf h
      exact w_X6_layPossible_b52 hC hz hZ r1 v2 v3 hr1 k9 hk9 _ hf
    · have hf := if_F hf h
      refine r_aload_n hC dX6_layPossible_31 0 rfl ?_
      refine r_aload_n hC dX6_layPossible_32 1 rfl ?_
      refine r_iconst (v := 1) hC dX6_layPossible_33 rfl ?_
      refine r_iload_n hC dX6_layPossible_34 2 rfl ?_
      refine r_iload_n hC dX6_layPossible_35 3 rfl ?_
      refine r_aload_n hC dX6_layPossible_36 0 rfl ?_
      refine gf_X6_44 hC (z_1 hZ 27 (by decide) rfl) rfl dX6_layPossible_37 ?_
      refine r_iload_n hC dX6_layPossible_40 2 rfl ?_
      have hin := if_K hf
      have hf := if_V hf
      refine r_iald hC (z_1 hZ 39 (by decide) rfl) (inb_vp hin) dX6_layPossible_41 ?_
      refine r_callVI [] (fun r M1 h => c_X6_canPlay (cx_st hC) hz hZ r1 1 v2 v3 (M2 39 (Int32.toNatClampNeg v2)) _ hr1 r M1 h) hf cs_X6_93 hC (z_1 hZ 27 (by decide) rfl) (q0 := (RX6, TX6, 19)) rfl rfl [.ref (Z.1 r1), .int 1, .int v2, .int v3, .int (M2 39 (Int32.toNatClampNeg v2))] rfl rfl rfl (by decide) (by decide) (Nat.le_of_ble_eq_true rfl) (by decide) (by decide) dX6_layPossible_42 (fun x3 M4 hf => ?_)
      refine r_if_eq 52 hC dX6_layPossible_45 (by decide) (fun h => ?_) (fun h => ?_)
      · have hf := if_T hf h
        exact w_X6_layPossible_b52 hC hz hZ r1 v2 v3 hr1 k9 hk9 _ hf
      · have hf := if_F hf h
        refine r_iconst (v := 1) hC dX6_layPossible_48 rfl ?_
        refine r_goto 53 hC dX6_layPossible_49 (by decide) ?_
        exact w_X6_layPossible_b53 hC hz hZ r1 v2 v3 hr1 k9 hk9 1 _ hf
set_option maxRecDepth 20000 in
theorem w_X6_layPossible {X : XX} {G : GG} {Z : ZZ} (hC : Cx X G RX6 cX6_layPossible none 4 0 0 5) (hz : ZOk G Z) (hZ : ZM Z) (r1 : Nat) (v2 : Int32) (M : Mem) (hr1 : ArI r1) {r : Unit} {M' : Mem} (hf : f_X6_layPossible r1 v2 M = some (r, M')) : V X G Z M 0 0 (QN X G (QcV G Z r M') 0 0) 0 [(0, .ref (Z.1 27)), (1, .ref (Z.1 r1)), (2, .int v2)] [] := by
  unfold f_X6_layPossible at hf
  refine r_aload_n hC dX6_layPossible_0 0 rfl ?_
  refine gf_X6_47 hC (z_1 hZ 27 (by decide) rfl) rfl dX6_layPossible_1 ?_
  refine r_iload_n hC dX6_layPossible_4 2 rfl ?_
  refine r_iconst (v := 0) hC dX6_layPossible_5 rfl ?_
  have hin := if_K hf
  have hf := if_V hf
  refine r_iast hC hz (z_1 hZ 40 (by decide) rfl) (inb_vp hin) dX6_layPossible_6 ?_
  refine r_iconst (v := 0) hC dX6_layPossible_7 rfl ?_
  refine r_istore_n (L' := [(3, .int 0), (0, .ref (Z.1 27)), (1, .ref (Z.1 r1)), (2, .int v2)]) hC dX6_layPossible_8 (by decide) rfl ?_
  refine r_L [1, 2, 3, 0] rfl ?_
  exact lq1_ind (P := fun (u3 : Int32) (M : Mem) => V X G Z M 0 0 (QN X G (QcV G Z r M') 0 0) 9 [(0, .ref (Z.1 27)), (1, .ref (Z.1 r1)), (2, .int v2), (3, .int u3)] []) (fun kk hkk u3 M hf => w_X6_layPossible_b9 hC hz hZ r1 v2 hr1 kk hkk u3 M hf) _ _ _ hf
set_option maxRecDepth 20000 in
theorem c_X6_layPossible {l : Launch} (hl : l.stackTraces = false) {G : GG} {Z : ZZ} (hz : ZOk G Z) (hZ : ZM Z) (r1 : Nat) (v2 : Int32) (M : Mem) (hr1 : ArI r1) (r : Unit) (M' : Mem) (hf : f_X6_layPossible r1 v2 M = some (r, M')) : CN (QcV G Z r M') l G Z yX6_layPossible cX6_layPossible 5 none 4 [.ref (Z.1 27), .ref (Z.1 r1), .int v2] M :=
  CN.of [(0, .ref (Z.1 27)), (1, .ref (Z.1 r1)), (2, .int v2)] hl (by decide +kernel) (Nat.le_of_ble_eq_true rfl) rfl (fun _ hC => w_X6_layPossible hC hz hZ r1 v2 M hr1 hf)
set_option maxRecDepth 20000 in
theorem w_X6_dropInner_b41 {X : XX} {G : GG} {Z : ZZ} {r : Unit} {M' : Mem} (hC : Cx X G RX6 cX6_dropInner none 1 0 0 4) (hz : ZOk G Z) (hZ : ZM Z) (v2 : Int32) (v3 : Int32) (M : Mem) (hf : f_X6_dropInner_b41 v2 v3 M = some (r, M')) : V X G Z M 0 0 (QN X G (QcV G Z r M') 0 0) 41 [(0, .ref (Z.1 27)), (2, .int v2), (3, .int v3)] [] := by
  unfold f_X6_dropInner_b41 at hf
  refine r_aload_n hC dX6_dropInner_41 0 rfl ?_
  refine gf_X6_38 hC (z_1 hZ 27 (by decide) rfl) rfl dX6_dropInner_42 ?_
  refine r_iload_n hC dX6_dropInner_45 2 rfl ?_
  refine r_iload_n hC dX6_dropInner_46 1 rfl ?_
  refine r_callSI [.ref (Z.1 37)] (fun r M1 h => c_X6_at (cx_st hC) hz hZ v3 v2 _  r M1 h) hf cs_X6_70 hC  rfl rfl (by decide) (by decide) (Nat.le_of_ble_eq_true rfl) (by decide) (by decide) dX6_dropInner_47 (fun x5 M6 hf => ?_)
  refine r_iconst (v := 3) hC dX6_dropInner_50 rfl ?_
  have hin := if_K hf
  have hf := if_V hf
  refine r_iast hC hz (z_1 hZ 37 (by decide) rfl) (inb_vp hin) dX6_dropInner_51 ?_
  exact r_vret hf hC (by decide) (by decide) dX6_dropInner_52
set_option maxRecDepth 20000 in
theorem w_X6_dropInner_b7 {X : XX} {G : GG} {Z : ZZ} {r : Unit} {M' : Mem} (hC : Cx X G RX6 cX6_dropInner none 1 0 0 4) (hz : ZOk G Z) (hZ : ZM Z) (v2 : Int32) (k7 : Int32 → Mem → Option (Unit × Mem)) (hk7 : ∀ (u3 : Int32) (M : Mem), k7 u3 M = some (r, M') → V X G Z M 0 0 (QN X G (QcV G Z r M') 0 0) 7 [(0, .ref (Z.1 27)), (2, .int v2), (3, .int u3)] []) (v3 : Int32) (M : Mem) (hf : f_X6_dropInner_b7 v2 k7 v3 M = some (r, M')) : V X G Z M 0 0 (QN X G (QcV G Z r M') 0 0) 7 [(0, .ref (Z.1 27)), (2, .int v2), (3, .int v3)] [] := by
  unfold f_X6_dropInner_b7 at hf
  refine r_aload_n hC dX6_dropInner_7 0 rfl ?_
  refine gf_X6_35 hC (z_1 hZ 27 (by decide) rfl) rfl dX6_dropInner_8 ?_
  refine r_iload_n hC dX6_dropInner_11 2 rfl ?_
  refine r_iload_n hC dX6_dropInner_12 1 rfl ?_
  refine r_callSI [.ref (Z.1 36)] (fun r M1 h => c_X6_at (cx_st hC) hz hZ v3 v2 _  r M1 h) hf cs_X6_70 hC  rfl rfl (by decide) (by decide) (Nat.le_of_ble_eq_true rfl) (by decide) (by decide) dX6_dropInner_13 (fun x1 M2 hf => ?_)
  have hin := if_K hf
  have hf := if_V hf
  refine r_iald hC (z_1 hZ 36 (by decide) rfl) (inb_vp hin) dX6_dropInner_16 ?_
  refine r_bipush (v := (-9)) hC dX6_dropInner_17 rfl ?_
  refine r_icmp_eq 35 hC dX6_dropInner_19 (by decide) (fun h => ?_) (fun h => ?_)
  · have hf := if_T hf h
    refine r_iinc (v := v3 + (-1)) (L' := [(3, .int (v3 + (-1))), (0, .ref (Z.1 27)), (2, .int v2)]) hC dX6_dropInner_35 2 rfl rfl (by decide) rfl ?_
    refine r_goto 7 hC dX6_dropInner_38 (by decide) ?_
    refine r_L [1, 2, 0] rfl ?_
    exact hk7 _ _ hf
  · have hf := if_F hf h
    refine r_aload_n hC dX6_dropInner_22 0 rfl ?_
    refine gf_X6_38 hC (z_1 hZ 27 (by decide) rfl) rfl dX6_dropInner_23 ?_
    refine r_iload_n hC dX6_dropInner_26 2 rfl ?_
    refine r_iload_n hC dX6_dropInner_27 1 rfl ?_
    refine r_callSI [.ref (Z.1 37)] (fun r M1 h => c_X6_at (cx_st hC) hz hZ v3 v2 _  r M1 h) hf cs_X6_70 hC  rfl rfl (by decide) (by decide) (Nat.le_of_ble_eq_true rfl) (by decide) (by decide) dX6_dropInner_28 (fun x3 M4 hf => ?_)
    have hin := if_K hf
    have hf := if_V hf
    refine r_iald hC (z_1 hZ 37 (by decide) rfl) (inb_vp hin) dX6_dropInner_31 ?_
    refine r_if_eq 41 hC dX6_dropInner_32 (by decide) (fun h => ?_) (fun h => ?_)
    · have hf := if_T hf h
      exact w_X6_dropInner_b41 hC hz hZ v2 v3 _ hf
    · have hf := if_F hf h
      refine r_iinc (v := v3 + (-1)) (L' := [(3, .int (v3 + (-1))), (0, .ref (Z.1 27)), (2, .int v2)]) hC dX6_dropInner_35 2 rfl rfl (by decide) rfl ?_
      refine r_goto 7 hC dX6_dropInner_38 (by decide) ?_
      refine r_L [1, 2, 0] rfl ?_
      exact hk7 _ _ hf
set_option maxRecDepth 20000 in
theorem w_X6_dropInner {X : XX} {G : GG} {Z : ZZ} (hC : Cx X G RX6 cX6_dropInner none 1 0 0 4) (hz : ZOk G Z) (hZ : ZM Z) (r1 : Nat) (v2 : Int32) (M : Mem) (hr1 : ArI r1) {r : Unit} {M' : Mem} (hf : f_X6_dropInner r1 v2 M = some (r, M')) : V X G Z M 0 0 (QN X G (QcV G Z r M') 0 0) 0 [(0, .ref (Z.1 27)), (1, .ref (Z.1 r1)), (2, .int v2)] [] := by
  unfold f_X6_dropInner at hf
  refine r_aload_n hC dX6_dropInner_0 1 rfl ?_
  refine r_bipush (v := 6) hC dX6_dropInner_1 rfl ?_
  have hin := if_K hf
  have hf := if_V hf
  refine r_iald hC (z_r hZ hr1) (inb_vp hin) dX6_dropInner_3 ?_
  refine r_iconst (v := 2) hC dX6_dropInner_4 rfl ?_
  refine r_isub hC dX6_dropInner_5 ?_
  refine r_istore_n (L' := [(3, .int ((M r1 (Int32.toNatClampNeg 6)) - 2)), (0, .ref (Z.1 27)), (1, .ref (Z.1 r1)), (2, .int v2)]) hC dX6_dropInner_6 (by decide) rfl ?_
  refine r_L [1, 3, 0] rfl ?_
  exact lq1_ind (P := fun (u3 : Int32) (M : Mem) => V X G Z M 0 0 (QN X G (QcV G Z r M') 0 0) 7 [(0, .ref (Z.1 27)), (2, .int v2), (3, .int u3)] []) (fun kk hkk u3 M hf => w_X6_dropInner_b7 hC hz hZ v2 kk hkk u3 M hf) _ _ _ hf
set_option maxRecDepth 20000 in
theorem c_X6_dropInner {l : Launch} (hl : l.stackTraces = false) {G : GG} {Z : ZZ} (hz : ZOk G Z) (hZ : ZM Z) (r1 : Nat) (v2 : Int32) (M : Mem) (hr1 : ArI r1) (r : Unit) (M' : Mem) (hf : f_X6_dropInner r1 v2 M = some (r, M')) : CN (QcV G Z r M') l G Z yX6_dropInner cX6_dropInner 4 none 1 [.ref (Z.1 27), .ref (Z.1 r1), .int v2] M :=
  CN.of [(0, .ref (Z.1 27)), (1, .ref (Z.1 r1)), (2, .int v2)] hl (by decide +kernel) (Nat.le_of_ble_eq_true rfl) rfl (fun _ hC => w_X6_dropInner hC hz hZ r1 v2 M hr1 hf)
set_option maxRecDepth 20000 in
theorem w_X6_can {X : XX} {G : GG} {Z : ZZ} (hC : Cx X G RX6 cX6_can (some .boolean) 0 0 0 3) (hz : ZOk G Z) (hZ : ZM Z) (v1 : Int32) (v2 : Int32) (M : Mem)  {r : Int32} {M' : Mem} (hf : f_X6_can v1 v2 M = some (r, M')) : V X G Z M 0 0 (QN X G (QcI G Z r M') 0 0) 0 [(0, .ref (Z.1 27)), (1, .int v1), (2, .int v2)] [] := by
  unfold f_X6_can at hf
  refine r_aload_n hC dX6_can_0 0 rfl ?_
  refine gf_X6_47 hC (z_1 hZ 27 (by decide) rfl) rfl dX6_can_1 ?_
  refine r_iload_n hC dX6_can_4 1 rfl ?_
  have hin := if_K hf
  have hf := if_V hf
  refine r_iald hC (z_1 hZ 40 (by decide) rfl) (inb_vp hin) dX6_can_5 ?_
  refine r_iload_n hC dX6_can_6 2 rfl ?_
  refine r_ishr hC dX6_can_7 ?_
  refine r_iconst (v := 1) hC dX6_can_8 rfl ?_
  refine r_iand hC dX6_can_9 ?_
  refine r_iconst (v := 1) hC dX6_can_10 rfl ?_
  refine r_icmp_ne 18 hC dX6_can_11 (by decide) (fun h => ?_) (fun h => ?_)
  · have hf := if_F hf h
    refine r_iconst (v := 0) hC dX6_can_18 rfl ?_
    exact r_zret hf hC rfl rfl (by decide) (by decide) dX6_can_19
  · have hf := if_T hf h
    refine r_iconst (v := 1) hC dX6_can_14 rfl ?_
    refine r_goto 19 hC dX6_can_15 (by decide) ?_
    exact r_zret hf hC rfl rfl (by decide) (by decide) dX6_can_19
set_option maxRecDepth 20000 in
theorem c_X6_can {l : Launch} (hl : l.stackTraces = false) {G : GG} {Z : ZZ} (hz : ZOk G Z) (hZ : ZM Z) (v1 : Int32) (v2 : Int32) (M : Mem)  (r : Int32) (M' : Mem) (hf : f_X6_can v1 v2 M = some (r, M')) : CN (QcI G Z r M') l G Z yX6_can cX6_can 3 (some .boolean) 0 [.ref (Z.1 27), .int v1, .int v2] M :=
  CN.of [(0, .ref (Z.1 27)), (1, .int v1), (2, .int v2)] hl (by decide +kernel) (Nat.le_of_ble_eq_true rfl) rfl (fun _ hC => w_X6_can hC hz hZ v1 v2 M  hf)
set_option maxRecDepth 20000 in
theorem w_X6_placeOf_b2 {X : XX} {G : GG} {Z : ZZ} {r : Int32} {M' : Mem} (hC : Cx X G RX6 cX6_placeOf (some .int) 0 0 0 4) (hz : ZOk G Z) (hZ : ZM Z) (v1 : Int32) (v2 : Int32) (k2 : Int32 → Mem → Option (Int32 × Mem)) (hk2 : ∀ (u3 : Int32) (M : Mem), k2 u3 M = some (r, M') → V X G Z M 0 0 (QN X G (QcI G Z r M') 0 0) 2 [(0, .ref (Z.1 27)), (1, .int v1), (2, .int v2), (3, .int u3)] []) (v3 : Int32) (M : Mem) (hf : f_X6_placeOf_b2 v1 v2 k2 v3 M = some (r, M')) : V X G Z M 0 0 (QN X G (QcI G Z r M') 0 0) 2 [(0, .ref (Z.1 27)), (1, .int v1), (2, .int v2), (3, .int v3)] [] := by
  unfold f_X6_placeOf_b2 at hf
  refine r_iload_n hC dX6_placeOf_2 3 rfl ?_
  refine r_aload_n hC dX6_placeOf_3 0 rfl ?_
  refine gf_X6_44 hC (z_1 hZ 27 (by decide) rfl) rfl dX6_placeOf_4 ?_
  refine r_iload_n hC dX6_placeOf_7 2 rfl ?_
  have hin := if_K hf
  have hf := if_V hf
  refine r_iald hC (z_1 hZ 39 (by decide) rfl) (inb_vp hin) dX6_placeOf_8 ?_
  refine r_icmp_ge 34 hC dX6_placeOf_9 (by decide) (fun h => ?_) (fun h => ?_)
  · have hf := if_T hf h
    refine r_bipush (v := (-9)) hC dX6_placeOf_34 rfl ?_
    exact r_iret hf hC (by decide) (by decide) dX6_placeOf_36
  · have hf := if_F hf h
    refine r_aload_n hC dX6_placeOf_12 0 rfl ?_
    refine gf_X6_41 hC (z_1 hZ 27 (by decide) rfl) rfl dX6_placeOf_13 ?_
    refine r_iconst (v := 4) hC dX6_placeOf_16 rfl ?_
    refine r_iload_n hC dX6_placeOf_17 2 rfl ?_
    refine r_imul hC dX6_placeOf_18 ?_
    refine r_iload_n hC dX6_placeOf_19 3 rfl ?_
    refine r_iadd hC dX6_placeOf_20 ?_
    have hin := if_K hf
    have hf := if_V hf
    refine r_iald hC (z_1 hZ 38 (by decide) rfl) (inb_vp hin) dX6_placeOf_21 ?_
    refine r_iload_n hC dX6_placeOf_22 1 rfl ?_
    refine r_icmp_ne 28 hC dX6_placeOf_23 (by decide) (fun h => ?_) (fun h => ?_)
    · have hf := if_F hf h
      refine r_iinc (v := v3 + 1) (L' := [(3, .int (v3 + 1)), (0, .ref (Z.1 27)), (1, .int v1), (2, .int v2)]) hC dX6_placeOf_28 3 rfl rfl (by decide) rfl ?_
      refine r_goto 2 hC dX6_placeOf_31 (by decide) ?_
      refine r_L [1, 2, 3, 0] rfl ?_
      exact hk2 _ _ hf
    · have hf := if_T hf h
      refine r_iload_n hC dX6_placeOf_26 3 rfl ?_
      exact r_iret hf hC (by decide) (by decide) dX6_placeOf_27
set_option maxRecDepth 20000 in
theorem w_X6_placeOf {X : XX} {G : GG} {Z : ZZ} (hC : Cx X G RX6 cX6_placeOf (some .int) 0 0 0 4) (hz : ZOk G Z) (hZ : ZM Z) (v1 : Int32) (v2 : Int32) (M : Mem)  {r : Int32} {M' : Mem} (hf : f_X6_placeOf v1 v2 M = some (r, M')) : V X G Z M 0 0 (QN X G (QcI G Z r M') 0 0) 0 [(0, .ref (Z.1 27)), (1, .int v1), (2, .int v2)] [] := by
  unfold f_X6_placeOf at hf
  refine r_iconst (v := 0) hC dX6_placeOf_0 rfl ?_
  refine r_istore_n (L' := [(3, .int 0), (0, .ref (Z.1 27)), (1, .int v1), (2, .int v2)]) hC dX6_placeOf_1 (by decide) rfl ?_
  refine r_L [1, 2, 3, 0] rfl ?_
  exact lq1_ind (P := fun (u3 : Int32) (M : Mem) => V X G Z M 0 0 (QN X G (QcI G Z r M') 0 0) 2 [(0, .ref (Z.1 27)), (1, .int v1), (2, .int v2), (3, .int u3)] []) (fun kk hkk u3 M hf => w_X6_placeOf_b2 hC hz hZ v1 v2 kk hkk u3 M hf) _ _ _ hf
set_option maxRecDepth 20000 in
theorem c_X6_placeOf {l : Launch} (hl : l.stackTraces = false) {G : GG} {Z : ZZ} (hz : ZOk G Z) (hZ : ZM Z) (v1 : Int32) (v2 : Int32) (M : Mem)  (r : Int32) (M' : Mem) (hf : f_X6_placeOf v1 v2 M = some (r, M')) : CN (QcI G Z r M') l G Z yX6_placeOf cX6_placeOf 4 (some .int) 0 [.ref (Z.1 27), .int v1, .int v2] M :=
  CN.of [(0, .ref (Z.1 27)), (1, .int v1), (2, .int v2)] hl (by decide +kernel) (Nat.le_of_ble_eq_true rfl) rfl (fun _ hC => w_X6_placeOf hC hz hZ v1 v2 M  hf)
set_option maxRecDepth 20000 in
theorem w_X6_handOf {X : XX} {G : GG} {Z : ZZ} (hC : Cx X G RX6 cX6_handOf (some .int) 1 0 0 5) (hz : ZOk G Z) (hZ : ZM Z) (v1 : Int32) (v2 : Int32) (v3 : Int32) (M : Mem)  {r : Int32} {M' : Mem} (hf : f_X6_handOf v1 v2 v3 M = some (r, M')) : V X G Z M 0 0 (QN X G (QcI G Z r M') 0 0) 0 [(0, .ref (Z.1 27)), (1, .int v1), (2, .int v2), (3, .int v3)] [] := by
  unfold f_X6_handOf at hf
  refine r_aload_n hC dX6_handOf_0 0 rfl ?_
  refine r_iload_n hC dX6_handOf_1 1 rfl ?_
  refine r_iload_n hC dX6_handOf_2 2 rfl ?_
  refine r_callVI [] (fun r M1 h => c_X6_placeOf (cx_st hC) hz hZ v1 v2 _  r M1 h) hf cs_X6_97 hC (z_1 hZ 27 (by decide) rfl) (q0 := (RX6, TX6, 19)) rfl rfl [.int v1, .int v2] rfl rfl rfl (by decide) (by decide) (Nat.le_of_ble_eq_true rfl) (by decide) (by decide) dX6_handOf_3 (fun x1 M2 hf => ?_)
  refine r_istore (L' := [(4, .int x1), (0, .ref (Z.1 27)), (1, .int v1), (2, .int v2), (3, .int v3)]) hC dX6_handOf_6 (by decide) rfl ?_
  refine r_iload hC dX6_handOf_8 0 rfl ?_
  refine r_bipush (v := (-9)) hC dX6_handOf_10 rfl ?_
  refine r_icmp_ne 20 hC dX6_handOf_12 (by decide) (fun h => ?_) (fun h => ?_)
  · have hf := if_F hf h
    refine r_iload hC dX6_handOf_20 0 rfl ?_
    refine r_iload_n hC dX6_handOf_22 4 rfl ?_
    refine r_icmp_ge 30 hC dX6_handOf_23 (by decide) (fun h => ?_) (fun h => ?_)
    · have hf := if_T hf h
      refine r_iconst (v := 1) hC dX6_handOf_30 rfl ?_
      exact r_iret hf hC (by decide) (by decide) dX6_handOf_31
    · have hf := if_F hf h
      refine r_iconst (v := 0) hC dX6_handOf_26 rfl ?_
      refine r_goto 31 hC dX6_handOf_27 (by decide) ?_
      exact r_iret hf hC (by decide) (by decide) dX6_handOf_31
  · have hf := if_T hf h
    refine r_bipush (v := (-9)) hC dX6_handOf_15 rfl ?_
    refine r_goto 31 hC dX6_handOf_17 (by decide) ?_
    exact r_iret hf hC (by decide) (by decide) dX6_handOf_31
set_option maxRecDepth 20000 in
theorem c_X6_handOf {l : Launch} (hl : l.stackTraces = false) {G : GG} {Z : ZZ} (hz : ZOk G Z) (hZ : ZM Z) (v1 : Int32) (v2 : Int32) (v3 : Int32) (M : Mem)  (r : Int32) (M' : Mem) (hf : f_X6_handOf v1 v2 v3 M = some (r, M')) : CN (QcI G Z r M') l G Z yX6_handOf cX6_handOf 5 (some .int) 1 [.ref (Z.1 27), .int v1, .int v2, .int v3] M :=
  CN.of [(0, .ref (Z.1 27)), (1, .int v1), (2, .int v2), (3, .int v3)] hl (by decide +kernel) (Nat.le_of_ble_eq_true rfl) rfl (fun _ hC => w_X6_handOf hC hz hZ v1 v2 v3 M  hf)
set_option maxRecDepth 20000 in
theorem w_X6_isCut {X : XX} {G : GG} {Z : ZZ} (hC : Cx X G RX6 cX6_isCut (some .boolean) 2 0 0 6) (hz : ZOk G Z) (hZ : ZM Z) (r1 : Nat) (v2 : Int32) (v3 : Int32) (v4 : Int32) (v5 : Int32) (M : Mem) (hr1 : ArI r1) {r : Int32} {M' : Mem} (hf : f_X6_isCut r1 v2 v3 v4 v5 M = some (r, M')) : V X G Z M 0 0 (QN X G (QcI G Z r M') 0 0) 0 [(0, .ref (Z.1 27)), (1, .ref (Z.1 r1)), (2, .int v2), (3, .int v3), (4, .int v4), (5, .int v5)] [] := by
  unfold f_X6_isCut at hf
  refine r_aload_n hC dX6_isCut_0 0 rfl ?_
  refine r_aload_n hC dX6_isCut_1 1 rfl ?_
  refine r_iload_n hC dX6_isCut_2 2 rfl ?_
  refine r_iload_n hC dX6_isCut_3 3 rfl ?_
  refine r_callVI [] (fun r M1 h => c_X6_isHeld (cx_st hC) hz hZ r1 v2 v3 _ hr1 r M1 h) hf cs_X6_74 hC (z_1 hZ 27 (by decide) rfl) (q0 := (RX6, TX6, 19)) rfl rfl [.ref (Z.1 r1), .int v2, .int v3] rfl rfl rfl (by decide) (by decide) (Nat.le_of_ble_eq_true rfl) (by decide) (by decide) dX6_isCut_4 (fun x1 M2 hf => ?_)
  refine r_if_eq 46 hC dX6_isCut_7 (by decide) (fun h => ?_) (fun h => ?_)
  · have hf := if_T hf h
    refine r_iconst (v := 0) hC dX6_isCut_46 rfl ?_
    exact r_zret hf hC rfl rfl (by decide) (by decide) dX6_isCut_47
  · have hf := if_F hf h
    refine r_aload_n hC dX6_isCut_10 0 rfl ?_
    refine r_iload_n hC dX6_isCut_11 2 rfl ?_
    refine r_iload_n hC dX6_isCut_12 3 rfl ?_
    refine r_callVI [] (fun r M1 h => c_X6_placeOf (cx_st hC) hz hZ v2 v3 _  r M1 h) hf cs_X6_97 hC (z_1 hZ 27 (by decide) rfl) (q0 := (RX6, TX6, 19)) rfl rfl [.int v2, .int v3] rfl rfl rfl (by decide) (by decide) (Nat.le_of_ble_eq_true rfl) (by decide) (by decide) dX6_isCut_13 (fun x3 M4 hf => ?_)
    refine r_bipush (v := (-9)) hC dX6_isCut_16 rfl ?_
    refine r_icmp_eq 46 hC dX6_isCut_18 (by decide) (fun h => ?_) (fun h => ?_)
    · have hf := if_T hf h
      refine r_iconst (v := 0) hC dX6_isCut_46 rfl ?_
      exact r_zret hf hC rfl rfl (by decide) (by decide) dX6_isCut_47
    · have hf := if_F hf h
      refine r_aload_n hC dX6_isCut_21 0 rfl ?_
      refine r_iload_n hC dX6_isCut_22 2 rfl ?_
      refine r_iload_n hC dX6_isCut_23 3 rfl ?_
      refine r_iconst (v := 1) hC dX6_isCut_24 rfl ?_
      refine r_isub hC dX6_isCut_25 ?_
      refine r_iload hC dX6_isCut_26 4 rfl ?_
      refine r_callVI [] (fun r M1 h => c_X6_handOf (cx_st hC) hz hZ v2 (v3 - 1) v4 _  r M1 h) hf cs_X6_100 hC (z_1 hZ 27 (by decide) rfl) (q0 := (RX6, TX6, 19)) rfl rfl [.int v2, .int (v3 - 1), .int v4] rfl rfl rfl (by decide) (by decide) (Nat.le_of_ble_eq_true rfl) (by decide) (by decide) dX6_isCut_28 (fun x5 M6 hf => ?_)
      refine r_aload_n hC dX6_isCut_31 0 rfl ?_
      refine r_iload_n hC dX6_isCut_32 2 rfl ?_
      refine r_iload_n hC dX6_isCut_33 3 rfl ?_
      refine r_iload hC dX6_isCut_34 5 rfl ?_
      refine r_callVI [.int x5] (fun r M1 h => c_X6_handOf (cx_st hC) hz hZ v2 v3 v5 _  r M1 h) hf cs_X6_100 hC (z_1 hZ 27 (by decide) rfl) (q0 := (RX6, TX6, 19)) rfl rfl [.int v2, .int v3, .int v5] rfl rfl rfl (by decide) (by decide) (Nat.le_of_ble_eq_true rfl) (by decide) (by decide) dX6_isCut_36 (fun x7 M8 hf => ?_)
      refine r_icmp_eq 46 hC dX6_isCut_39 (by decide) (fun h => ?_) (fun h => ?_)
      · have hf := if_T hf h
        refine r_iconst (v := 0) hC dX6_isCut_46 rfl ?_
        exact r_zret hf hC rfl rfl (by decide) (by decide) dX6_isCut_47
      · have hf := if_F hf h
        refine r_iconst (v := 1) hC dX6_isCut_42 rfl ?_
        refine r_goto 47 hC dX6_isCut_43 (by decide) ?_
        exact r_zret hf hC rfl rfl (by decide) (by decide) dX6_isCut_47
set_option maxRecDepth 20000 in
theorem c_X6_isCut {l : Launch} (hl : l.stackTraces = false) {G : GG} {Z : ZZ} (hz : ZOk G Z) (hZ : ZM Z) (r1 : Nat) (v2 : Int32) (v3 : Int32) (v4 : Int32) (v5 : Int32) (M : Mem) (hr1 : ArI r1) (r : Int32) (M' : Mem) (hf : f_X6_isCut r1 v2 v3 v4 v5 M = some (r, M')) : CN (QcI G Z r M') l G Z yX6_isCut cX6_isCut 6 (some .boolean) 2 [.ref (Z.1 27), .ref (Z.1 r1), .int v2, .int v3, .int v4, .int v5] M :=
  CN.of [(0, .ref (Z.1 27)), (1, .ref (Z.1 r1)), (2, .int v2), (3, .int v3), (4, .int v4), (5, .int v5)] hl (by decide +kernel) (Nat.le_of_ble_eq_true rfl) rfl (fun _ hC => w_X6_isCut hC hz hZ r1 v2 v3 v4 v5 M hr1 hf)
set_option maxRecDepth 20000 in
theorem w_X6_from {X : XX} {G : GG} {Z : ZZ} (hC : Cx X G RX6 cX6_from (some .int) 0 0 0 3) (hz : ZOk G Z) (hZ : ZM Z) (v1 : Int32) (v2 : Int32) (M : Mem)  {r : Int32} {M' : Mem} (hf : f_X6_from v1 v2 M = some (r, M')) : V X G Z M 0 0 (QN X G (QcI G Z r M') 0 0) 0 [(0, .ref (Z.1 27)), (1, .int v1), (2, .int v2)] [] := by
  unfold f_X6_from at hf
  refine r_iload_n hC dX6_from_0 1 rfl ?_
  refine r_if_ne 8 hC dX6_from_1 (by decide) (fun h => ?_) (fun h => ?_)
  · have hf := if_F hf h
    refine r_iload_n hC dX6_from_8 2 rfl ?_
    exact r_iret hf hC (by decide) (by decide) dX6_from_9
  · have hf := if_T hf h
    refine r_iconst (v := 0) hC dX6_from_4 rfl ?_
    refine r_goto 9 hC dX6_from_5 (by decide) ?_
    exact r_iret hf hC (by decide) (by decide) dX6_from_9
set_option maxRecDepth 20000 in
theorem c_X6_from {l : Launch} (hl : l.stackTraces = false) {G : GG} {Z : ZZ} (hz : ZOk G Z) (hZ : ZM Z) (v1 : Int32) (v2 : Int32) (M : Mem)  (r : Int32) (M' : Mem) (hf : f_X6_from v1 v2 M = some (r, M')) : CN (QcI G Z r M') l G Z yX6_from cX6_from 3 (some .int) 0 [.ref (Z.1 27), .int v1, .int v2] M :=
  CN.of [(0, .ref (Z.1 27)), (1, .int v1), (2, .int v2)] hl (by decide +kernel) (Nat.le_of_ble_eq_true rfl) rfl (fun _ hC => w_X6_from hC hz hZ v1 v2 M  hf)
set_option maxRecDepth 20000 in
theorem w_X6_to {X : XX} {G : GG} {Z : ZZ} (hC : Cx X G RX6 cX6_to (some .int) 0 0 0 4) (hz : ZOk G Z) (hZ : ZM Z) (v1 : Int32) (v2 : Int32) (v3 : Int32) (M : Mem)  {r : Int32} {M' : Mem} (hf : f_X6_to v1 v2 v3 M = some (r, M')) : V X G Z M 0 0 (QN X G (QcI G Z r M') 0 0) 0 [(0, .ref (Z.1 27)), (1, .int v1), (2, .int v2), (3, .int v3)] [] := by
  unfold f_X6_to at hf
  refine r_iload_n hC dX6_to_0 1 rfl ?_
  refine r_if_ne 8 hC dX6_to_1 (by decide) (fun h => ?_) (fun h => ?_)
  · have hf := if_F hf h
    refine r_aload_n hC dX6_to_8 0 rfl ?_
    refine gf_X6_44 hC (z_1 hZ 27 (by decide) rfl) rfl dX6_to_9 ?_
    refine r_iload_n hC dX6_to_12 2 rfl ?_
    have hin := if_K hf
    have hf := if_V hf
    refine r_iald hC (z_1 hZ 39 (by decide) rfl) (inb_vp hin) dX6_to_13 ?_
    exact r_iret hf hC (by decide) (by decide) dX6_to_14
  · have hf := if_T hf h
    refine r_iload_n hC dX6_to_4 3 rfl ?_
    refine r_goto 14 hC dX6_to_5 (by decide) ?_
    exact r_iret hf hC (by decide) (by decide) dX6_to_14
set_option maxRecDepth 20000 in
theorem c_X6_to {l : Launch} (hl : l.stackTraces = false) {G : GG} {Z : ZZ} (hz : ZOk G Z) (hZ : ZM Z) (v1 : Int32) (v2 : Int32) (v3 : Int32) (M : Mem)  (r : Int32) (M' : Mem) (hf : f_X6_to v1 v2 v3 M = some (r, M')) : CN (QcI G Z r M') l G Z yX6_to cX6_to 4 (some .int) 0 [.ref (Z.1 27), .int v1, .int v2, .int v3] M :=
  CN.of [(0, .ref (Z.1 27)), (1, .int v1), (2, .int v2), (3, .int v3)] hl (by decide +kernel) (Nat.le_of_ble_eq_true rfl) rfl (fun _ hC => w_X6_to hC hz hZ v1 v2 v3 M  hf)
set_option maxRecDepth 20000 in
theorem w_X6_position {X : XX} {G : GG} {Z : ZZ} (hC : Cx X G RX6 cX6_position (some .int) 2 0 0 4) (hz : ZOk G Z) (hZ : ZM Z) (v1 : Int32) (v2 : Int32) (v3 : Int32) (M : Mem)  {r : Int32} {M' : Mem} (hf : f_X6_position v1 v2 v3 M = some (r, M')) : V X G Z M 0 0 (QN X G (QcI G Z r M') 0 0) 0 [(0, .ref (Z.1 27)), (1, .int v1), (2, .int v2), (3, .int v3)] [] := by
  unfold f_X6_position at hf
  refine r_aload_n hC dX6_position_0 0 rfl ?_
  refine r_iload_n hC dX6_position_1 1 rfl ?_
  refine r_iload_n hC dX6_position_2 2 rfl ?_
  refine r_iload_n hC dX6_position_3 3 rfl ?_
  refine r_callVI [] (fun r M1 h => c_X6_to (cx_st hC) hz hZ v1 v2 v3 _  r M1 h) hf cs_X6_103 hC (z_1 hZ 27 (by decide) rfl) (q0 := (RX6, TX6, 19)) rfl rfl [.int v1, .int v2, .int v3] rfl rfl rfl (by decide) (by decide) (Nat.le_of_ble_eq_true rfl) (by decide) (by decide) dX6_position_4 (fun x1 M2 hf => ?_)
  refine r_aload_n hC dX6_position_7 0 rfl ?_
  refine r_iload_n hC dX6_position_8 1 rfl ?_
  refine r_iload_n hC dX6_position_9 3 rfl ?_
  refine r_callVI [.int x1] (fun r M1 h => c_X6_from (cx_st hC) hz hZ v1 v3 _  r M1 h) hf cs_X6_106 hC (z_1 hZ 27 (by decide) rfl) (q0 := (RX6, TX6, 19)) rfl rfl [.int v1, .int v3] rfl rfl rfl (by decide) (by decide) (Nat.le_of_ble_eq_true rfl) (by decide) (by decide) dX6_position_10 (fun x3 M4 hf => ?_)
  refine r_icmp_le 30 hC dX6_position_13 (by decide) (fun h => ?_) (fun h => ?_)
  · have hf := if_T hf h
    refine r_bipush (v := (-9)) hC dX6_position_30 rfl ?_
    exact r_iret hf hC (by decide) (by decide) dX6_position_32
  · have hf := if_F hf h
    refine r_aload_n hC dX6_position_16 0 rfl ?_
    refine r_iload_n hC dX6_position_17 2 rfl ?_
    refine r_aload_n hC dX6_position_18 0 rfl ?_
    refine r_iload_n hC dX6_position_19 1 rfl ?_
    refine r_iload_n hC dX6_position_20 3 rfl ?_
    refine r_callVI [.int v2, .ref (Z.1 27)] (fun r M1 h => c_X6_from (cx_st hC) hz hZ v1 v3 _  r M1 h) hf cs_X6_106 hC (z_1 hZ 27 (by decide) rfl) (q0 := (RX6, TX6, 19)) rfl rfl [.int v1, .int v3] rfl rfl rfl (by decide) (by decide) (Nat.le_of_ble_eq_true rfl) (by decide) (by decide) dX6_position_21 (fun x5 M6 hf => ?_)
    refine r_callVI [] (fun r M1 h => c_X6_pitchOf (cx_st hC) hz hZ v2 x5 _  r M1 h) hf cs_X6_86 hC (z_1 hZ 27 (by decide) rfl) (q0 := (RX6, TX6, 19)) rfl rfl [.int v2, .int x5] rfl rfl rfl (by decide) (by decide) (Nat.le_of_ble_eq_true rfl) (by decide) (by decide) dX6_position_24 (fun x7 M8 hf => ?_)
    refine r_goto 32 hC dX6_position_27 (by decide) ?_
    exact r_iret hf hC (by decide) (by decide) dX6_position_32
set_option maxRecDepth 20000 in
theorem c_X6_position {l : Launch} (hl : l.stackTraces = false) {G : GG} {Z : ZZ} (hz : ZOk G Z) (hZ : ZM Z) (v1 : Int32) (v2 : Int32) (v3 : Int32) (M : Mem)  (r : Int32) (M' : Mem) (hf : f_X6_position v1 v2 v3 M = some (r, M')) : CN (QcI G Z r M') l G Z yX6_position cX6_position 4 (some .int) 2 [.ref (Z.1 27), .int v1, .int v2, .int v3] M :=
  CN.of [(0, .ref (Z.1 27)), (1, .int v1), (2, .int v2), (3, .int v3)] hl (by decide +kernel) (Nat.le_of_ble_eq_true rfl) rfl (fun _ hC => w_X6_position hC hz hZ v1 v2 v3 M  hf)
set_option maxRecDepth 20000 in
theorem w_X6_move_b51 {X : XX} {G : GG} {Z : ZZ} {r : Int32} {M' : Mem} (hC : Cx X G RX6 cX6_move (some .int) 3 0 0 8) (hz : ZOk G Z) (hZ : ZM Z)  (M : Mem) (hf : f_X6_move_b51  M = some (r, M')) : V X G Z M 0 0 (QN X G (QcI G Z r M') 0 0) 51 [] [] := by
  unfold f_X6_move_b51 at hf
  refine r_iconst (v := 0) hC dX6_move_51 rfl ?_
  refine r_goto 68 hC dX6_move_52 (by decide) ?_
  exact r_iret hf hC (by decide) (by decide) dX6_move_68
set_option maxRecDepth 20000 in
theorem w_X6_move_b28 {X : XX} {G : GG} {Z : ZZ} {r : Int32} {M' : Mem} (hC : Cx X G RX6 cX6_move (some .int) 3 0 0 8) (hz : ZOk G Z) (hZ : ZM Z) (v5 : Int32) (s0 : Int32) (M : Mem) (hf : f_X6_move_b28 v5 s0 M = some (r, M')) : V X G Z M 0 0 (QN X G (QcI G Z r M') 0 0) 28 [(5, .int v5)] [.int s0] := by
  unfold f_X6_move_b28 at hf
  refine r_istore (L' := [(6, .int s0), (5, .int v5)]) hC dX6_move_28 (by decide) rfl ?_
  refine r_iload hC dX6_move_30 1 rfl ?_
  refine r_iload hC dX6_move_32 0 rfl ?_
  refine r_isub hC dX6_move_34 ?_
  refine r_istore (L' := [(7, .int (v5 - s0)), (6, .int s0), (5, .int v5)]) hC dX6_move_35 (by decide) rfl ?_
  refine r_iload hC dX6_move_37 2 rfl ?_
  refine r_bipush (v := (-9)) hC dX6_move_39 rfl ?_
  refine r_icmp_eq 51 hC dX6_move_41 (by decide) (fun h => ?_) (fun h => ?_)
  · have hf := if_T hf h
    refine r_L [] rfl ?_
    exact w_X6_move_b51 hC hz hZ  _ hf
  · have hf := if_F hf h
    refine r_iload hC dX6_move_44 1 rfl ?_
    refine r_bipush (v := (-9)) hC dX6_move_46 rfl ?_
    refine r_icmp_ne 55 hC dX6_move_48 (by decide) (fun h => ?_) (fun h => ?_)
    · have hf := if_F hf h
      refine r_iload hC dX6_move_55 0 rfl ?_
      refine r_if_ge 66 hC dX6_move_57 (by decide) (fun h => ?_) (fun h => ?_)
      · have hf := if_T hf h
        refine r_iload hC dX6_move_66 0 rfl ?_
        exact r_iret hf hC (by decide) (by decide) dX6_move_68
      · have hf := if_F hf h
        refine r_iload hC dX6_move_60 0 rfl ?_
        refine r_ineg hC dX6_move_62 ?_
        refine r_goto 68 hC dX6_move_63 (by decide) ?_
        exact r_iret hf hC (by decide) (by decide) dX6_move_68
    · have hf := if_T hf h
      refine r_L [] rfl ?_
      exact w_X6_move_b51 hC hz hZ  _ hf
set_option maxRecDepth 20000 in
theorem w_X6_move {X : XX} {G : GG} {Z : ZZ} (hC : Cx X G RX6 cX6_move (some .int) 3 0 0 8) (hz : ZOk G Z) (hZ : ZM Z) (v1 : Int32) (v2 : Int32) (v3 : Int32) (v4 : Int32) (M : Mem)  {r : Int32} {M' : Mem} (hf : f_X6_move v1 v2 v3 v4 M = some (r, M')) : V X G Z M 0 0 (QN X G (QcI G Z r M') 0 0) 0 [(0, .ref (Z.1 27)), (1, .int v1), (2, .int v2), (3, .int v3), (4, .int v4)] [] := by
  unfold f_X6_move at hf
  refine r_aload_n hC dX6_move_0 0 rfl ?_
  refine r_iload_n hC dX6_move_1 1 rfl ?_
  refine r_iload_n hC dX6_move_2 2 rfl ?_
  refine r_iload hC dX6_move_3 4 rfl ?_
  refine r_callVI [] (fun r M1 h => c_X6_position (cx_st hC) hz hZ v1 v2 v4 _  r M1 h) hf cs_X6_109 hC (z_1 hZ 27 (by decide) rfl) (q0 := (RX6, TX6, 19)) rfl rfl [.int v1, .int v2, .int v4] rfl rfl rfl (by decide) (by decide) (Nat.le_of_ble_eq_true rfl) (by decide) (by decide) dX6_move_5 (fun x1 M2 hf => ?_)
  refine r_istore (L' := [(5, .int x1), (0, .ref (Z.1 27)), (1, .int v1), (2, .int v2), (3, .int v3), (4, .int v4)]) hC dX6_move_8 (by decide) rfl ?_
  refine r_iload_n hC dX6_move_10 3 rfl ?_
  refine r_if_ne 19 hC dX6_move_11 (by decide) (fun h => ?_) (fun h => ?_)
  · have hf := if_F hf h
    refine r_aload_n hC dX6_move_19 1 rfl ?_
    refine r_iload_n hC dX6_move_20 2 rfl ?_
    refine r_iload_n hC dX6_move_21 3 rfl ?_
    refine r_iconst (v := 1) hC dX6_move_22 rfl ?_
    refine r_isub hC dX6_move_23 ?_
    refine r_iload_n hC dX6_move_24 4 rfl ?_
    refine r_callVI [] (fun r M1 h => c_X6_position (cx_st hC) hz hZ v1 (v2 - 1) v3 _  r M1 h) hf cs_X6_109 hC (z_1 hZ 27 (by decide) rfl) (q0 := (RX6, TX6, 19)) rfl rfl [.int v1, .int (v2 - 1), .int v3] rfl rfl rfl (by decide) (by decide) (Nat.le_of_ble_eq_true rfl) (by decide) (by decide) dX6_move_25 (fun x3 M4 hf => ?_)
    refine r_L [0] rfl ?_
    exact w_X6_move_b28 hC hz hZ x1 x3 _ hf
  · have hf := if_T hf h
    refine r_bipush (v := (-9)) hC dX6_move_14 rfl ?_
    refine r_goto 28 hC dX6_move_16 (by decide) ?_
    refine r_L [0] rfl ?_
    exact w_X6_move_b28 hC hz hZ x1 (-9) _ hf
set_option maxRecDepth 20000 in
theorem c_X6_move {l : Launch} (hl : l.stackTraces = false) {G : GG} {Z : ZZ} (hz : ZOk G Z) (hZ : ZM Z) (v1 : Int32) (v2 : Int32) (v3 : Int32) (v4 : Int32) (M : Mem)  (r : Int32) (M' : Mem) (hf : f_X6_move v1 v2 v3 v4 M = some (r, M')) : CN (QcI G Z r M') l G Z yX6_move cX6_move 8 (some .int) 3 [.ref (Z.1 27), .int v1, .int v2, .int v3, .int v4] M :=
  CN.of [(0, .ref (Z.1 27)), (1, .int v1), (2, .int v2), (3, .int v3), (4, .int v4)] hl (by decide +kernel) (Nat.le_of_ble_eq_true rfl) rfl (fun _ hC => w_X6_move hC hz hZ v1 v2 v3 v4 M  hf)
set_option maxRecDepth 20000 in
theorem w_X6_isRolled {X : XX} {G : GG} {Z : ZZ} (hC : Cx X G RX6 cX6_isRolled (some .boolean) 3 0 0 5) (hz : ZOk G Z) (hZ : ZM Z) (r1 : Nat) (v2 : Int32) (v3 : Int32) (v4 : Int32) (M : Mem) (hr1 : ArI r1) {r : Int32} {M' : Mem} (hf : f_X6_isRolled r1 v2 v3 v4 M = some (r, M')) : V X G Z M 0 0 (QN X G (QcI G Z r M') 0 0) 0 [(0, .ref (Z.1 27)), (1, .ref (Z.1 r1)), (2, .int v2), (3, .int v3), (4, .int v4)] [] := by
  unfold f_X6_isRolled at hf
  refine r_aload_n hC dX6_isRolled_0 0 rfl ?_
  refine r_iload_n hC dX6_isRolled_1 3 rfl ?_
  refine r_aload_n hC dX6_isRolled_2 0 rfl ?_
  refine r_iload_n hC dX6_isRolled_3 2 rfl ?_
  refine r_iload hC dX6_isRolled_4 4 rfl ?_
  refine r_callVI [.int v3, .ref (Z.1 27)] (fun r M1 h => c_X6_from (cx_st hC) hz hZ v2 v4 _  r M1 h) hf cs_X6_106 hC (z_1 hZ 27 (by decide) rfl) (q0 := (RX6, TX6, 19)) rfl rfl [.int v2, .int v4] rfl rfl rfl (by decide) (by decide) (Nat.le_of_ble_eq_true rfl) (by decide) (by decide) dX6_isRolled_6 (fun x1 M2 hf => ?_)
  refine r_aload_n hC dX6_isRolled_9 0 rfl ?_
  refine r_iload_n hC dX6_isRolled_10 2 rfl ?_
  refine r_iload_n hC dX6_isRolled_11 3 rfl ?_
  refine r_iload hC dX6_isRolled_12 4 rfl ?_
  refine r_callVI [.int x1, .int v3, .ref (Z.1 27)] (fun r M1 h => c_X6_to (cx_st hC) hz hZ v2 v3 v4 _  r M1 h) hf cs_X6_103 hC (z_1 hZ 27 (by decide) rfl) (q0 := (RX6, TX6, 19)) rfl rfl [.int v2, .int v3, .int v4] rfl rfl rfl (by decide) (by decide) (Nat.le_of_ble_eq_true rfl) (by decide) (by decide) dX6_isRolled_14 (fun x3 M4 hf => ?_)
  refine r_callVI [] (fun r M1 h => c_X6_width (cx_st hC) hz hZ v3 x1 x3 _  r M1 h) hf cs_X6_89 hC (z_1 hZ 27 (by decide) rfl) (q0 := (RX6, TX6, 19)) rfl rfl [.int v3, .int x1, .int x3] rfl rfl rfl (by decide) (by decide) (Nat.le_of_ble_eq_true rfl) (by decide) (by decide) dX6_isRolled_17 (fun x5 M6 hf => ?_)
  refine r_aload_n hC dX6_isRolled_20 1 rfl ?_
  refine r_iload_n hC dX6_isRolled_21 2 rfl ?_
  have hin := if_K hf
  have hf := if_V hf
  refine r_iald hC (z_r hZ hr1) (inb_vp hin) dX6_isRolled_22 ?_
  refine r_icmp_le 30 hC dX6_isRolled_23 (by decide) (fun h => ?_) (fun h => ?_)
  · have hf := if_T hf h
    refine r_iconst (v := 0) hC dX6_isRolled_30 rfl ?_
    exact r_zret hf hC rfl rfl (by decide) (by decide) dX6_isRolled_31
  · have hf := if_F hf h
    refine r_iconst (v := 1) hC dX6_isRolled_26 rfl ?_
    refine r_goto 31 hC dX6_isRolled_27 (by decide) ?_
    exact r_zret hf hC rfl rfl (by decide) (by decide) dX6_isRolled_31
set_option maxRecDepth 20000 in
theorem c_X6_isRolled {l : Launch} (hl : l.stackTraces = false) {G : GG} {Z : ZZ} (hz : ZOk G Z) (hZ : ZM Z) (r1 : Nat) (v2 : Int32) (v3 : Int32) (v4 : Int32) (M : Mem) (hr1 : ArI r1) (r : Int32) (M' : Mem) (hf : f_X6_isRolled r1 v2 v3 v4 M = some (r, M')) : CN (QcI G Z r M') l G Z yX6_isRolled cX6_isRolled 5 (some .boolean) 3 [.ref (Z.1 27), .ref (Z.1 r1), .int v2, .int v3, .int v4] M :=
  CN.of [(0, .ref (Z.1 27)), (1, .ref (Z.1 r1)), (2, .int v2), (3, .int v3), (4, .int v4)] hl (by decide +kernel) (Nat.le_of_ble_eq_true rfl) rfl (fun _ hC => w_X6_isRolled hC hz hZ r1 v2 v3 v4 M hr1 hf)
set_option maxRecDepth 20000 in
theorem w_X6_costOf_b42 {X : XX} {G : GG} {Z : ZZ} {r : Int32} {M' : Mem} (hC : Cx X G RX6 cX6_costOf (some .int) 4 0 0 7) (hz : ZOk G Z) (hZ : ZM Z) (r1 : Nat) (v2 : Int32) (v3 : Int32) (v4 : Int32) (v6 : Int32) (hr1 : ArI r1) (k6 : Int32 → Int32 → Mem → Option (Int32 × Mem)) (hk6 : ∀ (u5 : Int32) (u6 : Int32) (M : Mem), k6 u5 u6 M = some (r, M') → V X G Z M 0 0 (QN X G (QcI G Z r M') 0 0) 6 [(0, .ref (Z.1 27)), (1, .ref (Z.1 r1)), (2, .int v2), (3, .int v3), (4, .int v4), (5, .int u5), (6, .int u6)] []) (s0 : Int32) (s1 : Int32) (s2 : Int32) (M : Mem) (hf : f_X6_costOf_b42 r1 v2 v3 v4 v6 k6 s0 s1 s2 M = some (r, M')) : V X G Z M 0 0 (QN X G (QcI G Z r M') 0 0) 42 [(0, .ref (Z.1 27)), (1, .ref (Z.1 r1)), (2, .int v2), (3, .int v3), (4, .int v4), (6, .int v6)] [.int s0, .int s1, .int s2] := by
  unfold f_X6_costOf_b42 at hf
  refine r_iadd hC dX6_costOf_42 ?_
  refine r_iadd hC dX6_costOf_43 ?_
  refine r_istore (L' := [(5, .int (s2 + (s1 + s0))), (0, .ref (Z.1 27)), (1, .ref (Z.1 r1)), (2, .int v2), (3, .int v3), (4, .int v4), (6, .int v6)]) hC dX6_costOf_44 (by decide) rfl ?_
  refine r_iinc (v := v6 + 1) (L' := [(6, .int (v6 + 1)), (5, .int (s2 + (s1 + s0))), (0, .ref (Z.1 27)), (1, .ref (Z.1 r1)), (2, .int v2), (3, .int v3), (4, .int v4)]) hC dX6_costOf_46 6 rfl rfl (by decide) rfl ?_
  refine r_goto 6 hC dX6_costOf_49 (by decide) ?_
  refine r_L [2, 3, 4, 5, 6, 1, 0] rfl ?_
  exact hk6 _ _ _ hf
set_option maxRecDepth 20000 in
theorem w_X6_costOf_b55 {X : XX} {G : GG} {Z : ZZ} {r : Int32} {M' : Mem} (hC : Cx X G RX6 cX6_costOf (some .int) 4 0 0 7) (hz : ZOk G Z) (hZ : ZM Z) (r1 : Nat) (v2 : Int32) (v3 : Int32) (v4 : Int32) (hr1 : ArI r1) (k55 : Int32 → Int32 → Mem → Option (Int32 × Mem)) (hk55 : ∀ (u5 : Int32) (u6 : Int32) (M : Mem), k55 u5 u6 M = some (r, M') → V X G Z M 0 0 (QN X G (QcI G Z r M') 0 0) 55 [(0, .ref (Z.1 27)), (1, .ref (Z.1 r1)), (2, .int v2), (3, .int v3), (4, .int v4), (5, .int u5), (6, .int u6)] []) (v5 : Int32) (v6 : Int32) (M : Mem) (hf : f_X6_costOf_b55 r1 v2 v3 v4 k55 v5 v6 M = some (r, M')) : V X G Z M 0 0 (QN X G (QcI G Z r M') 0 0) 55 [(0, .ref (Z.1 27)), (1, .ref (Z.1 r1)), (2, .int v2), (3, .int v3), (4, .int v4), (5, .int v5), (6, .int v6)] [] := by
  unfold f_X6_costOf_b55 at hf
  refine r_iload hC dX6_costOf_55 6 rfl ?_
  refine r_aload_n hC dX6_costOf_57 1 rfl ?_
  refine r_bipush (v := 6) hC dX6_costOf_58 rfl ?_
  have hin := if_K hf
  have hf := if_V hf
  refine r_iald hC (z_r hZ hr1) (inb_vp hin) dX6_costOf_60 ?_
  refine r_icmp_ge 95 hC dX6_costOf_61 (by decide) (fun h => ?_) (fun h => ?_)
  · have hf := if_T hf h
    refine r_iload hC dX6_costOf_95 5 rfl ?_
    exact r_iret hf hC (by decide) (by decide) dX6_costOf_97
  · have hf := if_F hf h
    refine r_iload hC dX6_costOf_64 5 rfl ?_
    refine r_aload_n hC dX6_costOf_66 0 rfl ?_
    refine r_aload_n hC dX6_costOf_67 1 rfl ?_
    refine r_iload hC dX6_costOf_68 6 rfl ?_
    refine r_iload_n hC dX6_costOf_70 2 rfl ?_
    refine r_iload_n hC dX6_costOf_71 3 rfl ?_
    refine r_iload hC dX6_costOf_72 4 rfl ?_
    refine r_callVI [.int v5] (fun r M1 h => c_X6_isCut (cx_st hC) hz hZ r1 v6 v2 v3 v4 _ hr1 r M1 h) hf cs_X6_120 hC (z_1 hZ 27 (by decide) rfl) (q0 := (RX6, TX6, 19)) rfl rfl [.ref (Z.1 r1), .int v6, .int v2, .int v3, .int v4] rfl rfl rfl (by decide) (by decide) (Nat.le_of_ble_eq_true rfl) (by decide) (by decide) dX6_costOf_74 (fun x5 M6 hf => ?_)
    refine r_if_eq 85 hC dX6_costOf_77 (by decide) (fun h => ?_) (fun h => ?_)
    · have hf := if_T hf h
      refine r_iconst (v := 0) hC dX6_costOf_85 rfl ?_
      refine r_iadd hC dX6_costOf_86 ?_
      refine r_istore (L' := [(5, .int (v5 + 0)), (0, .ref (Z.1 27)), (1, .ref (Z.1 r1)), (2, .int v2), (3, .int v3), (4, .int v4), (6, .int v6)]) hC dX6_costOf_87 (by decide) rfl ?_
      refine r_iinc (v := v6 + 1) (L' := [(6, .int (v6 + 1)), (5, .int (v5 + 0)), (0, .ref (Z.1 27)), (1, .ref (Z.1 r1)), (2, .int v2), (3, .int v3), (4, .int v4)]) hC dX6_costOf_89 6 rfl rfl (by decide) rfl ?_
      refine r_goto 55 hC dX6_costOf_92 (by decide) ?_
      refine r_L [2, 3, 4, 5, 6, 1, 0] rfl ?_
      exact hk55 _ _ _ hf
    · have hf := if_F hf h
      refine r_bipush (v := 10) hC dX6_costOf_80 rfl ?_
      refine r_goto 86 hC dX6_costOf_82 (by decide) ?_
      refine r_iadd hC dX6_costOf_86 ?_
      refine r_istore (L' := [(5, .int (v5 + 10)), (0, .ref (Z.1 27)), (1, .ref (Z.1 r1)), (2, .int v2), (3, .int v3), (4, .int v4), (6, .int v6)]) hC dX6_costOf_87 (by decide) rfl ?_
      refine r_iinc (v := v6 + 1) (L' := [(6, .int (v6 + 1)), (5, .int (v5 + 10)), (0, .ref (Z.1 27)), (1, .ref (Z.1 r1)), (2, .int v2), (3, .int v3), (4, .int v4)]) hC dX6_costOf_89 6 rfl rfl (by decide) rfl ?_
      refine r_goto 55 hC dX6_costOf_92 (by decide) ?_
      refine r_L [2, 3, 4, 5, 6, 1, 0] rfl ?_
      exact hk55 _ _ _ hf
set_option maxRecDepth 20000 in
theorem w_X6_costOf_b52 {X : XX} {G : GG} {Z : ZZ} {r : Int32} {M' : Mem} (hC : Cx X G RX6 cX6_costOf (some .int) 4 0 0 7) (hz : ZOk G Z) (hZ : ZM Z) (r1 : Nat) (v2 : Int32) (v3 : Int32) (v4 : Int32) (v5 : Int32) (hr1 : ArI r1) (M : Mem) (hf : f_X6_costOf_b52 r1 v2 v3 v4 v5 M = some (r, M')) : V X G Z M 0 0 (QN X G (QcI G Z r M') 0 0) 52 [(0, .ref (Z.1 27)), (1, .ref (Z.1 r1)), (2, .int v2), (3, .int v3), (4, .int v4), (5, .int v5)] [] := by
  unfold f_X6_costOf_b52 at hf
  refine r_iconst (v := 0) hC dX6_costOf_52 rfl ?_
  refine r_istore (L' := [(6, .int 0), (0, .ref (Z.1 27)), (1, .ref (Z.1 r1)), (2, .int v2), (3, .int v3), (4, .int v4), (5, .int v5)]) hC dX6_costOf_53 (by decide) rfl ?_
  refine r_L [1, 2, 3, 4, 5, 6, 0] rfl ?_
  exact lq2_ind (P := fun (u5 : Int32) (u6 : Int32) (M : Mem) => V X G Z M 0 0 (QN X G (QcI G Z r M') 0 0) 55 [(0, .ref (Z.1 27)), (1, .ref (Z.1 r1)), (2, .int v2), (3, .int v3), (4, .int v4), (5, .int u5), (6, .int u6)] []) (fun kk hkk u5 u6 M hf => w_X6_costOf_b55 hC hz hZ r1 v2 v3 v4 hr1 kk hkk u5 u6 M hf) _ _ _ _ hf
set_option maxRecDepth 20000 in
theorem w_X6_costOf_b6 {X : XX} {G : GG} {Z : ZZ} {r : Int32} {M' : Mem} (hC : Cx X G RX6 cX6_costOf (some .int) 4 0 0 7) (hz : ZOk G Z) (hZ : ZM Z) (r1 : Nat) (v2 : Int32) (v3 : Int32) (v4 : Int32) (hr1 : ArI r1) (k6 : Int32 → Int32 → Mem → Option (Int32 × Mem)) (hk6 : ∀ (u5 : Int32) (u6 : Int32) (M : Mem), k6 u5 u6 M = some (r, M') → V X G Z M 0 0 (QN X G (QcI G Z r M') 0 0) 6 [(0, .ref (Z.1 27)), (1, .ref (Z.1 r1)), (2, .int v2), (3, .int v3), (4, .int v4), (5, .int u5), (6, .int u6)] []) (v5 : Int32) (v6 : Int32) (M : Mem) (hf : f_X6_costOf_b6 r1 v2 v3 v4 k6 v5 v6 M = some (r, M')) : V X G Z M 0 0 (QN X G (QcI G Z r M') 0 0) 6 [(0, .ref (Z.1 27)), (1, .ref (Z.1 r1)), (2, .int v2), (3, .int v3), (4, .int v4), (5, .int v5), (6, .int v6)] [] := by
  unfold f_X6_costOf_b6 at hf
  refine r_iload hC dX6_costOf_6 6 rfl ?_
  refine r_iconst (v := 2) hC dX6_costOf_8 rfl ?_
  refine r_icmp_ge 52 hC dX6_costOf_9 (by decide) (fun h => ?_) (fun h => ?_)
  · have hf := if_T hf h
    refine r_L [0, 1, 2, 3, 4, 5] rfl ?_
    exact w_X6_costOf_b52 hC hz hZ r1 v2 v3 v4 v5 hr1 _ hf
  · have hf := if_F hf h
    refine r_iload hC dX6_costOf_12 5 rfl ?_
    refine r_aload_n hC dX6_costOf_14 0 rfl ?_
    refine r_iload hC dX6_costOf_15 6 rfl ?_
    refine r_iload_n hC dX6_costOf_17 2 rfl ?_
    refine r_iload_n hC dX6_costOf_18 3 rfl ?_
    refine r_iload hC dX6_costOf_19 4 rfl ?_
    refine r_callVI [.int v5] (fun r M1 h => c_X6_move (cx_st hC) hz hZ v6 v2 v3 v4 _  r M1 h) hf cs_X6_112 hC (z_1 hZ 27 (by decide) rfl) (q0 := (RX6, TX6, 19)) rfl rfl [.int v6, .int v2, .int v3, .int v4] rfl rfl rfl (by decide) (by decide) (Nat.le_of_ble_eq_true rfl) (by decide) (by decide) dX6_costOf_21 (fun x1 M2 hf => ?_)
    refine r_aload_n hC dX6_costOf_24 0 rfl ?_
    refine r_aload_n hC dX6_costOf_25 1 rfl ?_
    refine r_iload hC dX6_costOf_26 6 rfl ?_
    refine r_iload_n hC dX6_costOf_28 2 rfl ?_
    refine r_iload hC dX6_costOf_29 4 rfl ?_
    refine r_callVI [.int x1, .int v5] (fun r M1 h => c_X6_isRolled (cx_st hC) hz hZ r1 v6 v2 v4 _ hr1 r M1 h) hf cs_X6_116 hC (z_1 hZ 27 (by decide) rfl) (q0 := (RX6, TX6, 19)) rfl rfl [.ref (Z.1 r1), .int v6, .int v2, .int v4] rfl rfl rfl (by decide) (by decide) (Nat.le_of_ble_eq_true rfl) (by decide) (by decide) dX6_costOf_31 (fun x3 M4 hf => ?_)
    refine r_if_eq 41 hC dX6_costOf_34 (by decide) (fun h => ?_) (fun h => ?_)
    · have hf := if_T hf h
      refine r_iconst (v := 0) hC dX6_costOf_41 rfl ?_
      refine r_L [0, 1, 2, 3, 4, 6] rfl ?_
      exact w_X6_costOf_b42 hC hz hZ r1 v2 v3 v4 v6 hr1 k6 hk6 0 x1 v5 _ hf
    · have hf := if_F hf h
      refine r_iconst (v := 5) hC dX6_costOf_37 rfl ?_
      refine r_goto 42 hC dX6_costOf_38 (by decide) ?_
      refine r_L [0, 1, 2, 3, 4, 6] rfl ?_
      exact w_X6_costOf_b42 hC hz hZ r1 v2 v3 v4 v6 hr1 k6 hk6 5 x1 v5 _ hf
set_option maxRecDepth 20000 in
theorem w_X6_costOf {X : XX} {G : GG} {Z : ZZ} (hC : Cx X G RX6 cX6_costOf (some .int) 4 0 0 7) (hz : ZOk G Z) (hZ : ZM Z) (r1 : Nat) (v2 : Int32) (v3 : Int32) (v4 : Int32) (M : Mem) (hr1 : ArI r1) {r : Int32} {M' : Mem} (hf : f_X6_costOf r1 v2 v3 v4 M = some (r, M')) : V X G Z M 0 0 (QN X G (QcI G Z r M') 0 0) 0 [(0, .ref (Z.1 27)), (1, .ref (Z.1 r1)), (2, .int v2), (3, .int v3), (4, .int v4)] [] := by
  unfold f_X6_costOf at hf
  refine r_iconst (v := 0) hC dX6_costOf_0 rfl ?_
  refine r_istore (L' := [(5, .int 0), (0, .ref (Z.1 27)), (1, .ref (Z.1 r1)), (2, .int v2), (3, .int v3), (4, .int v4)]) hC dX6_costOf_1 (by decide) rfl ?_
  refine r_iconst (v := 0) hC dX6_costOf_3 rfl ?_
  refine r_istore (L' := [(6, .int 0), (5, .int 0), (0, .ref (Z.1 27)), (1, .ref (Z.1 r1)), (2, .int v2), (3, .int v3), (4, .int v4)]) hC dX6_costOf_4 (by decide) rfl ?_
  refine r_L [2, 3, 4, 5, 6, 1, 0] rfl ?_
  exact lq2_ind (P := fun (u5 : Int32) (u6 : Int32) (M : Mem) => V X G Z M 0 0 (QN X G (QcI G Z r M') 0 0) 6 [(0, .ref (Z.1 27)), (1, .ref (Z.1 r1)), (2, .int v2), (3, .int v3), (4, .int v4), (5, .int u5), (6, .int u6)] []) (fun kk hkk u5 u6 M hf => w_X6_costOf_b6 hC hz hZ r1 v2 v3 v4 hr1 kk hkk u5 u6 M hf) _ _ _ _ hf
set_option maxRecDepth 20000 in
theorem c_X6_costOf {l : Launch} (hl : l.stackTraces = false) {G : GG} {Z : ZZ} (hz : ZOk G Z) (hZ : ZM Z) (r1 : Nat) (v2 : Int32) (v3 : Int32) (v4 : Int32) (M : Mem) (hr1 : ArI r1) (r : Int32) (M' : Mem) (hf : f_X6_costOf r1 v2 v3 v4 M = some (r, M')) : CN (QcI G Z r M') l G Z yX6_costOf cX6_costOf 7 (some .int) 4 [.ref (Z.1 27), .ref (Z.1 r1), .int v2, .int v3, .int v4] M :=
  CN.of [(0, .ref (Z.1 27)), (1, .ref (Z.1 r1)), (2, .int v2), (3, .int v3), (4, .int v4)] hl (by decide +kernel) (Nat.le_of_ble_eq_true rfl) rfl (fun _ hC => w_X6_costOf hC hz hZ r1 v2 v3 v4 M hr1 hf)
set_option maxRecDepth 20000 in
theorem w_X6_cheapest_b96 {X : XX} {G : GG} {Z : ZZ} {r : Int32} {M' : Mem} (hC : Cx X G RX6 cX6_cheapest (some .int) 5 0 0 10) (hz : ZOk G Z) (hZ : ZM Z) (r1 : Nat) (v2 : Int32) (v3 : Int32) (v4 : Int32) (v6 : Int32) (v7 : Int32) (v8 : Int32) (v9 : Int32) (hr1 : ArI r1) (k10 : Int32 → Int32 → Int32 → Mem → Option (Int32 × Mem)) (hk10 : ∀ (u5 : Int32) (u6 : Int32) (u7 : Int32) (M : Mem), k10 u5 u6 u7 M = some (r, M') → V X G Z M 0 0 (QN X G (QcI G Z r M') 0 0) 10 [(0, .ref (Z.1 27)), (1, .ref (Z.1 r1)), (2, .int v2), (3, .int v3), (4, .int v4), (5, .int u5), (6, .int u6), (7, .int u7)] []) (s0 : Int32) (M : Mem) (hf : f_X6_cheapest_b96 r1 v2 v3 v4 v6 v7 v8 v9 k10 s0 M = some (r, M')) : V X G Z M 0 0 (QN X G (QcI G Z r M') 0 0) 96 [(0, .ref (Z.1 27)), (1, .ref (Z.1 r1)), (2, .int v2), (3, .int v3), (4, .int v4), (6, .int v6), (7, .int v7), (8, .int v8), (9, .int v9)] [.int s0] := by
  unfold f_X6_cheapest_b96 at hf
  refine r_istore (L' := [(5, .int s0), (0, .ref (Z.1 27)), (1, .ref (Z.1 r1)), (2, .int v2), (3, .int v3), (4, .int v4), (6, .int v6), (7, .int v7), (8, .int v8), (9, .int v9)]) hC dX6_cheapest_96 (by decide) rfl ?_
  refine r_iload hC dX6_cheapest_98 9 rfl ?_
  refine r_if_eq 108 hC dX6_cheapest_100 (by decide) (fun h => ?_) (fun h => ?_)
  · have hf := if_T hf h
    refine r_iload hC dX6_cheapest_108 6 rfl ?_
    refine r_istore (L' := [(6, .int v6), (5, .int s0), (0, .ref (Z.1 27)), (1, .ref (Z.1 r1)), (2, .int v2), (3, .int v3), (4, .int v4), (7, .int v7), (8, .int v8), (9, .int v9)]) hC dX6_cheapest_110 (by decide) rfl ?_
    refine r_iinc (v := v7 + 1) (L' := [(7, .int (v7 + 1)), (6, .int v6), (5, .int s0), (0, .ref (Z.1 27)), (1, .ref (Z.1 r1)), (2, .int v2), (3, .int v3), (4, .int v4), (8, .int v8), (9, .int v9)]) hC dX6_cheapest_112 7 rfl rfl (by decide) rfl ?_
    refine r_goto 10 hC dX6_cheapest_115 (by decide) ?_
    refine r_L [3, 4, 5, 6, 7, 2, 1, 0] rfl ?_
    exact hk10 _ _ _ _ hf
  · have hf := if_F hf h
    refine r_iload hC dX6_cheapest_103 8 rfl ?_
    refine r_goto 110 hC dX6_cheapest_105 (by decide) ?_
    refine r_istore (L' := [(6, .int v8), (5, .int s0), (0, .ref (Z.1 27)), (1, .ref (Z.1 r1)), (2, .int v2), (3, .int v3), (4, .int v4), (7, .int v7), (8, .int v8), (9, .int v9)]) hC dX6_cheapest_110 (by decide) rfl ?_
    refine r_iinc (v := v7 + 1) (L' := [(7, .int (v7 + 1)), (6, .int v8), (5, .int s0), (0, .ref (Z.1 27)), (1, .ref (Z.1 r1)), (2, .int v2), (3, .int v3), (4, .int v4), (8, .int v8), (9, .int v9)]) hC dX6_cheapest_112 7 rfl rfl (by decide) rfl ?_
    refine r_goto 10 hC dX6_cheapest_115 (by decide) ?_
    refine r_L [3, 4, 5, 6, 7, 2, 1, 0] rfl ?_
    exact hk10 _ _ _ _ hf
set_option maxRecDepth 20000 in
theorem w_X6_cheapest_b82 {X : XX} {G : GG} {Z : ZZ} {r : Int32} {M' : Mem} (hC : Cx X G RX6 cX6_cheapest (some .int) 5 0 0 10) (hz : ZOk G Z) (hZ : ZM Z) (r1 : Nat) (v2 : Int32) (v3 : Int32) (v4 : Int32) (v5 : Int32) (v6 : Int32) (v7 : Int32) (v8 : Int32) (hr1 : ArI r1) (k10 : Int32 → Int32 → Int32 → Mem → Option (Int32 × Mem)) (hk10 : ∀ (u5 : Int32) (u6 : Int32) (u7 : Int32) (M : Mem), k10 u5 u6 u7 M = some (r, M') → V X G Z M 0 0 (QN X G (QcI G Z r M') 0 0) 10 [(0, .ref (Z.1 27)), (1, .ref (Z.1 r1)), (2, .int v2), (3, .int v3), (4, .int v4), (5, .int u5), (6, .int u6), (7, .int u7)] []) (s0 : Int32) (M : Mem) (hf : f_X6_cheapest_b82 r1 v2 v3 v4 v5 v6 v7 v8 k10 s0 M = some (r, M')) : V X G Z M 0 0 (QN X G (QcI G Z r M') 0 0) 82 [(0, .ref (Z.1 27)), (1, .ref (Z.1 r1)), (2, .int v2), (3, .int v3), (4, .int v4), (5, .int v5), (6, .int v6), (7, .int v7), (8, .int v8)] [.int s0] := by
  unfold f_X6_cheapest_b82 at hf
  refine r_istore (L' := [(9, .int s0), (0, .ref (Z.1 27)), (1, .ref (Z.1 r1)), (2, .int v2), (3, .int v3), (4, .int v4), (5, .int v5), (6, .int v6), (7, .int v7), (8, .int v8)]) hC dX6_cheapest_82 (by decide) rfl ?_
  refine r_iload hC dX6_cheapest_84 0 rfl ?_
  refine r_if_eq 94 hC dX6_cheapest_86 (by decide) (fun h => ?_) (fun h => ?_)
  · have hf := if_T hf h
    refine r_iload hC dX6_cheapest_94 6 rfl ?_
    refine r_L [1, 2, 3, 4, 5, 7, 8, 9, 0] rfl ?_
    exact w_X6_cheapest_b96 hC hz hZ r1 v2 v3 v4 v6 v7 v8 s0 hr1 k10 hk10 v5 _ hf
  · have hf := if_F hf h
    refine r_iload hC dX6_cheapest_89 8 rfl ?_
    refine r_goto 96 hC dX6_cheapest_91 (by decide) ?_
    refine r_L [1, 2, 3, 4, 5, 7, 8, 9, 0] rfl ?_
    exact w_X6_cheapest_b96 hC hz hZ r1 v2 v3 v4 v6 v7 v8 s0 hr1 k10 hk10 v7 _ hf
set_option maxRecDepth 20000 in
theorem w_X6_cheapest_b77 {X : XX} {G : GG} {Z : ZZ} {r : Int32} {M' : Mem} (hC : Cx X G RX6 cX6_cheapest (some .int) 5 0 0 10) (hz : ZOk G Z) (hZ : ZM Z) (r1 : Nat) (v2 : Int32) (v3 : Int32) (v4 : Int32) (v5 : Int32) (v6 : Int32) (v7 : Int32) (v8 : Int32) (hr1 : ArI r1) (k10 : Int32 → Int32 → Int32 → Mem → Option (Int32 × Mem)) (hk10 : ∀ (u5 : Int32) (u6 : Int32) (u7 : Int32) (M : Mem), k10 u5 u6 u7 M = some (r, M') → V X G Z M 0 0 (QN X G (QcI G Z r M') 0 0) 10 [(0, .ref (Z.1 27)), (1, .ref (Z.1 r1)), (2, .int v2), (3, .int v3), (4, .int v4), (5, .int u5), (6, .int u6), (7, .int u7)] []) (M : Mem) (hf : f_X6_cheapest_b77 r1 v2 v3 v4 v5 v6 v7 v8 k10 M = some (r, M')) : V X G Z M 0 0 (QN X G (QcI G Z r M') 0 0) 77 [(0, .ref (Z.1 27)), (1, .ref (Z.1 r1)), (2, .int v2), (3, .int v3), (4, .int v4), (5, .int v5), (6, .int v6), (7, .int v7), (8, .int v8)] [] := by
  unfold f_X6_cheapest_b77 at hf
  refine r_iconst (v := 1) hC dX6_cheapest_77 rfl ?_
  refine r_goto 82 hC dX6_cheapest_78 (by decide) ?_
  exact w_X6_cheapest_b82 hC hz hZ r1 v2 v3 v4 v5 v6 v7 v8 hr1 k10 hk10 1 _ hf
set_option maxRecDepth 20000 in
theorem w_X6_cheapest_b60 {X : XX} {G : GG} {Z : ZZ} {r : Int32} {M' : Mem} (hC : Cx X G RX6 cX6_cheapest (some .int) 5 0 0 10) (hz : ZOk G Z) (hZ : ZM Z) (r1 : Nat) (v2 : Int32) (v3 : Int32) (v4 : Int32) (v5 : Int32) (v6 : Int32) (v7 : Int32) (hr1 : ArI r1) (k10 : Int32 → Int32 → Int32 → Mem → Option (Int32 × Mem)) (hk10 : ∀ (u5 : Int32) (u6 : Int32) (u7 : Int32) (M : Mem), k10 u5 u6 u7 M = some (r, M') → V X G Z M 0 0 (QN X G (QcI G Z r M') 0 0) 10 [(0, .ref (Z.1 27)), (1, .ref (Z.1 r1)), (2, .int v2), (3, .int v3), (4, .int v4), (5, .int u5), (6, .int u6), (7, .int u7)] []) (s0 : Int32) (s1 : Int32) (M : Mem) (hf : f_X6_cheapest_b60 r1 v2 v3 v4 v5 v6 v7 k10 s0 s1 M = some (r, M')) : V X G Z M 0 0 (QN X G (QcI G Z r M') 0 0) 60 [(0, .ref (Z.1 27)), (1, .ref (Z.1 r1)), (2, .int v2), (3, .int v3), (4, .int v4), (5, .int v5), (6, .int v6), (7, .int v7)] [.int s0, .int s1] := by
  unfold f_X6_cheapest_b60 at hf
  refine r_iadd hC dX6_cheapest_60 ?_
  refine r_istore (L' := [(8, .int (s1 + s0)), (0, .ref (Z.1 27)), (1, .ref (Z.1 r1)), (2, .int v2), (3, .int v3), (4, .int v4), (5, .int v5), (6, .int v6), (7, .int v7)]) hC dX6_cheapest_61 (by decide) rfl ?_
  refine r_iload hC dX6_cheapest_63 6 rfl ?_
  refine r_bipush (v := (-9)) hC dX6_cheapest_65 rfl ?_
  refine r_icmp_eq 77 hC dX6_cheapest_67 (by decide) (fun h => ?_) (fun h => ?_)
  · have hf := if_T hf h
    refine r_L [1, 2, 3, 4, 5, 6, 7, 8, 0] rfl ?_
    exact w_X6_cheapest_b77 hC hz hZ r1 v2 v3 v4 v5 v6 v7 (s1 + s0) hr1 k10 hk10 _ hf
  · have hf := if_F hf h
    refine r_iload hC dX6_cheapest_70 0 rfl ?_
    refine r_iload hC dX6_cheapest_72 7 rfl ?_
    refine r_icmp_ge 81 hC dX6_cheapest_74 (by decide) (fun h => ?_) (fun h => ?_)
    · have hf := if_T hf h
      refine r_iconst (v := 0) hC dX6_cheapest_81 rfl ?_
      refine r_L [1, 2, 3, 4, 5, 6, 7, 8, 0] rfl ?_
      exact w_X6_cheapest_b82 hC hz hZ r1 v2 v3 v4 v5 v6 v7 (s1 + s0) hr1 k10 hk10 0 _ hf
    · have hf := if_F hf h
      refine r_L [1, 2, 3, 4, 5, 6, 7, 8, 0] rfl ?_
      exact w_X6_cheapest_b77 hC hz hZ r1 v2 v3 v4 v5 v6 v7 (s1 + s0) hr1 k10 hk10 _ hf
set_option maxRecDepth 20000 in
theorem w_X6_cheapest_b10 {X : XX} {G : GG} {Z : ZZ} {r : Int32} {M' : Mem} (hC : Cx X G RX6 cX6_cheapest (some .int) 5 0 0 10) (hz : ZOk G Z) (hZ : ZM Z) (r1 : Nat) (v2 : Int32) (v3 : Int32) (v4 : Int32) (hr1 : ArI r1) (k10 : Int32 → Int32 → Int32 → Mem → Option (Int32 × Mem)) (hk10 : ∀ (u5 : Int32) (u6 : Int32) (u7 : Int32) (M : Mem), k10 u5 u6 u7 M = some (r, M') → V X G Z M 0 0 (QN X G (QcI G Z r M') 0 0) 10 [(0, .ref (Z.1 27)), (1, .ref (Z.1 r1)), (2, .int v2), (3, .int v3), (4, .int v4), (5, .int u5), (6, .int u6), (7, .int u7)] []) (v5 : Int32) (v6 : Int32) (v7 : Int32) (M : Mem) (hf : f_X6_cheapest_b10 r1 v2 v3 v4 k10 v5 v6 v7 M = some (r, M')) : V X G Z M 0 0 (QN X G (QcI G Z r M') 0 0) 10 [(0, .ref (Z.1 27)), (1, .ref (Z.1 r1)), (2, .int v2), (3, .int v3), (4, .int v4), (5, .int v5), (6, .int v6), (7, .int v7)] [] := by
  unfold f_X6_cheapest_b10 at hf
  refine r_iload hC dX6_cheapest_10 7 rfl ?_
  refine r_aload_n hC dX6_cheapest_12 0 rfl ?_
  refine gf_X6_44 hC (z_1 hZ 27 (by decide) rfl) rfl dX6_cheapest_13 ?_
  refine r_iload_n hC dX6_cheapest_16 2 rfl ?_
  have hin := if_K hf
  have hf := if_V hf
  refine r_iald hC (z_1 hZ 39 (by decide) rfl) (inb_vp hin) dX6_cheapest_17 ?_
  refine r_icmp_gt 118 hC dX6_cheapest_18 (by decide) (fun h => ?_) (fun h => ?_)
  · have hf := if_T hf h
    refine r_iload hC dX6_cheapest_118 5 rfl ?_
    exact r_iret hf hC (by decide) (by decide) dX6_cheapest_120
  · have hf := if_F hf h
    refine r_aload_n hC dX6_cheapest_21 0 rfl ?_
    refine r_iload_n hC dX6_cheapest_22 2 rfl ?_
    refine r_iload hC dX6_cheapest_23 7 rfl ?_
    refine r_callVI [] (fun r M1 h => c_X6_can (cx_st hC) hz hZ v2 v7 _  r M1 h) hf cs_X6_123 hC (z_1 hZ 27 (by decide) rfl) (q0 := (RX6, TX6, 19)) rfl rfl [.int v2, .int v7] rfl rfl rfl (by decide) (by decide) (Nat.le_of_ble_eq_true rfl) (by decide) (by decide) dX6_cheapest_25 (fun x1 M2 hf => ?_)
    refine r_if_eq 112 hC dX6_cheapest_28 (by decide) (fun h => ?_) (fun h => ?_)
    · have hf := if_T hf h
      refine r_iinc (v := v7 + 1) (L' := [(7, .int (v7 + 1)), (0, .ref (Z.1 27)), (1, .ref (Z.1 r1)), (2, .int v2), (3, .int v3), (4, .int v4), (5, .int v5), (6, .int v6)]) hC dX6_cheapest_112 7 rfl rfl (by decide) rfl ?_
      refine r_goto 10 hC dX6_cheapest_115 (by decide) ?_
      refine r_L [1, 2, 3, 4, 5, 6, 7, 0] rfl ?_
      exact hk10 _ _ _ _ hf
    · have hf := if_F hf h
      refine r_aload_n hC dX6_cheapest_31 0 rfl ?_
      refine r_aload_n hC dX6_cheapest_32 1 rfl ?_
      refine r_iload_n hC dX6_cheapest_33 2 rfl ?_
      refine r_iload_n hC dX6_cheapest_34 3 rfl ?_
      refine r_iload hC dX6_cheapest_35 7 rfl ?_
      refine r_callVI [] (fun r M1 h => c_X6_costOf (cx_st hC) hz hZ r1 v2 v3 v7 _ hr1 r M1 h) hf cs_X6_127 hC (z_1 hZ 27 (by decide) rfl) (q0 := (RX6, TX6, 19)) rfl rfl [.ref (Z.1 r1), .int v2, .int v3, .int v7] rfl rfl rfl (by decide) (by decide) (Nat.le_of_ble_eq_true rfl) (by decide) (by decide) dX6_cheapest_37 (fun x3 M4 hf => ?_)
      refine r_iload hC dX6_cheapest_40 4 rfl ?_
      refine r_if_eq 59 hC dX6_cheapest_42 (by decide) (fun h => ?_) (fun h => ?_)
      · have hf := if_T hf h
        refine r_iconst (v := 0) hC dX6_cheapest_59 rfl ?_
        exact w_X6_cheapest_b60 hC hz hZ r1 v2 v3 v4 v5 v6 v7 hr1 k10 hk10 0 x3 _ hf
      · have hf := if_F hf h
        refine r_aload_n hC dX6_cheapest_45 0 rfl ?_
        refine gf_X6_53 hC (z_1 hZ 27 (by decide) rfl) rfl dX6_cheapest_46 ?_
        refine r_iconst (v := 5) hC dX6_cheapest_49 rfl ?_
        refine r_iload_n hC dX6_cheapest_50 2 rfl ?_
        refine r_imul hC dX6_cheapest_51 ?_
        refine r_iload hC dX6_cheapest_52 7 rfl ?_
        refine r_iadd hC dX6_cheapest_54 ?_
        have hin := if_K hf
        have hf := if_V hf
        refine r_iald hC (z_1 hZ 42 (by decide) rfl) (inb_vp hin) dX6_cheapest_55 ?_
        refine r_goto 60 hC dX6_cheapest_56 (by decide) ?_
        exact w_X6_cheapest_b60 hC hz hZ r1 v2 v3 v4 v5 v6 v7 hr1 k10 hk10 (M4 42 (Int32.toNatClampNeg ((5 * v2) + v7))) x3 _ hf
set_option maxRecDepth 20000 in
theorem w_X6_cheapest {X : XX} {G : GG} {Z : ZZ} (hC : Cx X G RX6 cX6_cheapest (some .int) 5 0 0 10) (hz : ZOk G Z) (hZ : ZM Z) (r1 : Nat) (v2 : Int32) (v3 : Int32) (v4 : Int32) (M : Mem) (hr1 : ArI r1) {r : Int32} {M' : Mem} (hf : f_X6_cheapest r1 v2 v3 v4 M = some (r, M')) : V X G Z M 0 0 (QN X G (QcI G Z r M') 0 0) 0 [(0, .ref (Z.1 27)), (1, .ref (Z.1 r1)), (2, .int v2), (3, .int v3), (4, .int v4)] [] := by
  unfold f_X6_cheapest at hf
  refine r_bipush (v := (-9)) hC dX6_cheapest_0 rfl ?_
  refine r_istore (L' := [(5, .int (-9)), (0, .ref (Z.1 27)), (1, .ref (Z.1 r1)), (2, .int v2), (3, .int v3), (4, .int v4)]) hC dX6_cheapest_2 (by decide) rfl ?_
  refine r_iconst (v := 0) hC dX6_cheapest_4 rfl ?_
  refine r_istore (L' := [(6, .int 0), (5, .int (-9)), (0, .ref (Z.1 27)), (1, .ref (Z.1 r1)), (2, .int v2), (3, .int v3), (4, .int v4)]) hC dX6_cheapest_5 (by decide) rfl ?_
  refine r_iconst (v := 0) hC dX6_cheapest_7 rfl ?_
  refine r_istore (L' := [(7, .int 0), (6, .int 0), (5, .int (-9)), (0, .ref (Z.1 27)), (1, .ref (Z.1 r1)), (2, .int v2), (3, .int v3), (4, .int v4)]) hC dX6_cheapest_8 (by decide) rfl ?_
  refine r_L [3, 4, 5, 6, 7, 2, 1, 0] rfl ?_
  exact lq3_ind (P := fun (u5 : Int32) (u6 : Int32) (u7 : Int32) (M : Mem) => V X G Z M 0 0 (QN X G (QcI G Z r M') 0 0) 10 [(0, .ref (Z.1 27)), (1, .ref (Z.1 r1)), (2, .int v2), (3, .int v3), (4, .int v4), (5, .int u5), (6, .int u6), (7, .int u7)] []) (fun kk hkk u5 u6 u7 M hf => w_X6_cheapest_b10 hC hz hZ r1 v2 v3 v4 hr1 kk hkk u5 u6 u7 M hf) _ _ _ _ _ hf
set_option maxRecDepth 20000 in
theorem c_X6_cheapest {l : Launch} (hl : l.stackTraces = false) {G : GG} {Z : ZZ} (hz : ZOk G Z) (hZ : ZM Z) (r1 : Nat) (v2 : Int32) (v3 : Int32) (v4 : Int32) (M : Mem) (hr1 : ArI r1) (r : Int32) (M' : Mem) (hf : f_X6_cheapest r1 v2 v3 v4 M = some (r, M')) : CN (QcI G Z r M') l G Z yX6_cheapest cX6_cheapest 10 (some .int) 5 [.ref (Z.1 27), .ref (Z.1 r1), .int v2, .int v3, .int v4] M :=
  CN.of [(0, .ref (Z.1 27)), (1, .ref (Z.1 r1)), (2, .int v2), (3, .int v3), (4, .int v4)] hl (by decide +kernel) (Nat.le_of_ble_eq_true rfl) rfl (fun _ hC => w_X6_cheapest hC hz hZ r1 v2 v3 v4 M hr1 hf)
set_option maxRecDepth 20000 in
theorem w_X6_layAhead_b59 {X : XX} {G : GG} {Z : ZZ} {r : Unit} {M' : Mem} (hC : Cx X G RX6 cX6_layAhead none 6 0 0 6) (hz : ZOk G Z) (hZ : ZM Z) (r1 : Nat) (v2 : Int32) (v3 : Int32) (v4 : Int32) (hr1 : ArI r1) (k7 : Int32 → Mem → Option (Unit × Mem)) (k13 : Int32 → Mem → Option (Unit × Mem)) (hk7 : ∀ (u2 : Int32) (M : Mem), k7 u2 M = some (r, M') → V X G Z M 0 0 (QN X G (QcV G Z r M') 0 0) 7 [(0, .ref (Z.1 27)), (1, .ref (Z.1 r1)), (2, .int u2)] []) (hk13 : ∀ (u3 : Int32) (M : Mem), k13 u3 M = some (r, M') → V X G Z M 0 0 (QN X G (QcV G Z r M') 0 0) 13 [(0, .ref (Z.1 27)), (1, .ref (Z.1 r1)), (2, .int v2), (3, .int u3)] []) (s0 : Int32) (M : Mem) (hf : f_X6_layAhead_b59 r1 v2 v3 v4 k7 k13 s0 M = some (r, M')) : V X G Z M 0 0 (QN X G (QcV G Z r M') 0 0) 59 [(0, .ref (Z.1 27)), (1, .ref (Z.1 r1)), (2, .int v2), (3, .int v3), (4, .int v4)] [.int s0] := by
  unfold f_X6_layAhead_b59 at hf
  refine r_istore (L' := [(5, .int s0), (0, .ref (Z.1 27)), (1, .ref (Z.1 r1)), (2, .int v2), (3, .int v3), (4, .int v4)]) hC dX6_layAhead_59 (by decide) rfl ?_
  refine r_aload_n hC dX6_layAhead_61 1 rfl ?_
  refine gf_X6_53 hC (z_1 hZ 27 (by decide) rfl) rfl dX6_layAhead_62 ?_
  refine r_iconst (v := 5) hC dX6_layAhead_65 rfl ?_
  refine r_iload_n hC dX6_layAhead_66 3 rfl ?_
  refine r_imul hC dX6_layAhead_67 ?_
  refine r_iload_n hC dX6_layAhead_68 4 rfl ?_
  refine r_iadd hC dX6_layAhead_69 ?_
  refine r_iload hC dX6_layAhead_70 5 rfl ?_
  refine r_if_eq 79 hC dX6_layAhead_72 (by decide) (fun h => ?_) (fun h => ?_)
  · have hf := if_T hf h
    refine r_aload_n hC dX6_layAhead_79 1 rfl ?_
    refine r_aload_n hC dX6_layAhead_80 2 rfl ?_
    refine r_iload_n hC dX6_layAhead_81 3 rfl ?_
    refine r_iconst (v := 1) hC dX6_layAhead_82 rfl ?_
    refine r_iadd hC dX6_layAhead_83 ?_
    refine r_iload_n hC dX6_layAhead_84 4 rfl ?_
    refine r_iload hC dX6_layAhead_85 0 rfl ?_
    refine r_callVI [.int ((5 * v2) + v3), .ref (Z.1 42)] (fun r M1 h => c_X6_costOf (cx_st hC) hz hZ r1 (v2 + 1) v3 s0 _ hr1 r M1 h) hf cs_X6_127 hC (z_1 hZ 27 (by decide) rfl) (q0 := (RX6, TX6, 19)) rfl rfl [.ref (Z.1 r1), .int (v2 + 1), .int v3, .int s0] rfl rfl rfl (by decide) (by decide) (Nat.le_of_ble_eq_true rfl) (by decide) (by decide) dX6_layAhead_87 (fun x3 M4 hf => ?_)
    refine r_aload_n hC dX6_layAhead_90 1 rfl ?_
    refine gf_X6_53 hC (z_1 hZ 27 (by decide) rfl) rfl dX6_layAhead_91 ?_
    refine r_iconst (v := 5) hC dX6_layAhead_94 rfl ?_
    refine r_iload_n hC dX6_layAhead_95 3 rfl ?_
    refine r_iconst (v := 1) hC dX6_layAhead_96 rfl ?_
    refine r_iadd hC dX6_layAhead_97 ?_
    refine r_imul hC dX6_layAhead_98 ?_
    refine r_iload hC dX6_layAhead_99 0 rfl ?_
    refine r_iadd hC dX6_layAhead_101 ?_
    have hin := if_K hf
    have hf := if_V hf
    refine r_iald hC (z_1 hZ 42 (by decide) rfl) (inb_vp hin) dX6_layAhead_102 ?_
    refine r_iadd hC dX6_layAhead_103 ?_
    have hin := if_K hf
    have hf := if_V hf
    refine r_iast hC hz (z_1 hZ 42 (by decide) rfl) (inb_vp hin) dX6_layAhead_104 ?_
    refine r_iinc (v := v3 + 1) (L' := [(3, .int (v3 + 1)), (5, .int s0), (0, .ref (Z.1 27)), (1, .ref (Z.1 r1)), (2, .int v2), (4, .int v4)]) hC dX6_layAhead_105 4 rfl rfl (by decide) rfl ?_
    refine r_goto 13 hC dX6_layAhead_108 (by decide) ?_
    refine r_L [2, 3, 4, 0] rfl ?_
    exact hk13 _ _ hf
  · have hf := if_F hf h
    refine r_iconst (v := 0) hC dX6_layAhead_75 rfl ?_
    refine r_goto 104 hC dX6_layAhead_76 (by decide) ?_
    have hin := if_K hf
    have hf := if_V hf
    refine r_iast hC hz (z_1 hZ 42 (by decide) rfl) (inb_vp hin) dX6_layAhead_104 ?_
    refine r_iinc (v := v3 + 1) (L' := [(3, .int (v3 + 1)), (5, .int s0), (0, .ref (Z.1 27)), (1, .ref (Z.1 r1)), (2, .int v2), (4, .int v4)]) hC dX6_layAhead_105 4 rfl rfl (by decide) rfl ?_
    refine r_goto 13 hC dX6_layAhead_108 (by decide) ?_
    refine r_L [2, 3, 4, 0] rfl ?_
    exact hk13 _ _ hf
set_option maxRecDepth 20000 in
theorem w_X6_layAhead_b38 {X : XX} {G : GG} {Z : ZZ} {r : Unit} {M' : Mem} (hC : Cx X G RX6 cX6_layAhead none 6 0 0 6) (hz : ZOk G Z) (hZ : ZM Z) (r1 : Nat) (v2 : Int32) (v3 : Int32) (hr1 : ArI r1) (k7 : Int32 → Mem → Option (Unit × Mem)) (k13 : Int32 → Mem → Option (Unit × Mem)) (hk7 : ∀ (u2 : Int32) (M : Mem), k7 u2 M = some (r, M') → V X G Z M 0 0 (QN X G (QcV G Z r M') 0 0) 7 [(0, .ref (Z.1 27)), (1, .ref (Z.1 r1)), (2, .int u2)] []) (hk13 : ∀ (u3 : Int32) (M : Mem), k13 u3 M = some (r, M') → V X G Z M 0 0 (QN X G (QcV G Z r M') 0 0) 13 [(0, .ref (Z.1 27)), (1, .ref (Z.1 r1)), (2, .int v2), (3, .int u3)] []) (s0 : Int32) (M : Mem) (hf : f_X6_layAhead_b38 r1 v2 v3 k7 k13 s0 M = some (r, M')) : V X G Z M 0 0 (QN X G (QcV G Z r M') 0 0) 38 [(0, .ref (Z.1 27)), (1, .ref (Z.1 r1)), (2, .int v2), (3, .int v3)] [.int s0] := by
  unfold f_X6_layAhead_b38 at hf
  refine r_istore (L' := [(4, .int s0), (0, .ref (Z.1 27)), (1, .ref (Z.1 r1)), (2, .int v2), (3, .int v3)]) hC dX6_layAhead_38 (by decide) rfl ?_
  refine r_iload hC dX6_layAhead_40 0 rfl ?_
  refine r_if_eq 49 hC dX6_layAhead_42 (by decide) (fun h => ?_) (fun h => ?_)
  · have hf := if_T hf h
    refine r_aload_n hC dX6_layAhead_49 1 rfl ?_
    refine r_aload_n hC dX6_layAhead_50 2 rfl ?_
    refine r_iload_n hC dX6_layAhead_51 3 rfl ?_
    refine r_iconst (v := 1) hC dX6_layAhead_52 rfl ?_
    refine r_iadd hC dX6_layAhead_53 ?_
    refine r_iload_n hC dX6_layAhead_54 4 rfl ?_
    refine r_iconst (v := 1) hC dX6_layAhead_55 rfl ?_
    refine r_callVI [] (fun r M1 h => c_X6_cheapest (cx_st hC) hz hZ r1 (v2 + 1) v3 1 _ hr1 r M1 h) hf cs_X6_131 hC (z_1 hZ 27 (by decide) rfl) (q0 := (RX6, TX6, 19)) rfl rfl [.ref (Z.1 r1), .int (v2 + 1), .int v3, .int 1] rfl rfl rfl (by decide) (by decide) (Nat.le_of_ble_eq_true rfl) (by decide) (by decide) dX6_layAhead_56 (fun x1 M2 hf => ?_)
    refine r_L [1, 2, 3, 4, 0] rfl ?_
    exact w_X6_layAhead_b59 hC hz hZ r1 v2 v3 s0 hr1 k7 k13 hk7 hk13 x1 _ hf
  · have hf := if_F hf h
    refine r_iconst (v := 0) hC dX6_layAhead_45 rfl ?_
    refine r_goto 59 hC dX6_layAhead_46 (by decide) ?_
    refine r_L [1, 2, 3, 4, 0] rfl ?_
    exact w_X6_layAhead_b59 hC hz hZ r1 v2 v3 s0 hr1 k7 k13 hk7 hk13 0 _ hf
set_option maxRecDepth 20000 in
theorem w_X6_layAhead_b13 {X : XX} {G : GG} {Z : ZZ} {r : Unit} {M' : Mem} (hC : Cx X G RX6 cX6_layAhead none 6 0 0 6) (hz : ZOk G Z) (hZ : ZM Z) (r1 : Nat) (v2 : Int32) (hr1 : ArI r1) (k7 : Int32 → Mem → Option (Unit × Mem)) (hk7 : ∀ (u2 : Int32) (M : Mem), k7 u2 M = some (r, M') → V X G Z M 0 0 (QN X G (QcV G Z r M') 0 0) 7 [(0, .ref (Z.1 27)), (1, .ref (Z.1 r1)), (2, .int u2)] []) (k13 : Int32 → Mem → Option (Unit × Mem)) (hk13 : ∀ (u3 : Int32) (M : Mem), k13 u3 M = some (r, M') → V X G Z M 0 0 (QN X G (QcV G Z r M') 0 0) 13 [(0, .ref (Z.1 27)), (1, .ref (Z.1 r1)), (2, .int v2), (3, .int u3)] []) (v3 : Int32) (M : Mem) (hf : f_X6_layAhead_b13 r1 v2 k7 k13 v3 M = some (r, M')) : V X G Z M 0 0 (QN X G (QcV G Z r M') 0 0) 13 [(0, .ref (Z.1 27)), (1, .ref (Z.1 r1)), (2, .int v2), (3, .int v3)] [] := by
  unfold f_X6_layAhead_b13 at hf
  refine r_iload_n hC dX6_layAhead_13 3 rfl ?_
  refine r_aload_n hC dX6_layAhead_14 0 rfl ?_
  refine gf_X6_44 hC (z_1 hZ 27 (by decide) rfl) rfl dX6_layAhead_15 ?_
  refine r_iload_n hC dX6_layAhead_18 2 rfl ?_
  have hin := if_K hf
  have hf := if_V hf
  refine r_iald hC (z_1 hZ 39 (by decide) rfl) (inb_vp hin) dX6_layAhead_19 ?_
  refine r_icmp_gt 111 hC dX6_layAhead_20 (by decide) (fun h => ?_) (fun h => ?_)
  · have hf := if_T hf h
    refine r_iinc (v := v2 + (-1)) (L' := [(2, .int (v2 + (-1))), (0, .ref (Z.1 27)), (1, .ref (Z.1 r1)), (3, .int v3)]) hC dX6_layAhead_111 2 rfl rfl (by decide) rfl ?_
    refine r_goto 7 hC dX6_layAhead_114 (by decide) ?_
    refine r_L [1, 2, 0] rfl ?_
    exact hk7 _ _ hf
  · have hf := if_F hf h
    refine r_iload_n hC dX6_layAhead_23 2 rfl ?_
    refine r_aload_n hC dX6_layAhead_24 1 rfl ?_
    refine r_bipush (v := 7) hC dX6_layAhead_25 rfl ?_
    have hin := if_K hf
    have hf := if_V hf
    refine r_iald hC (z_r hZ hr1) (inb_vp hin) dX6_layAhead_27 ?_
    refine r_iconst (v := 1) hC dX6_layAhead_28 rfl ?_
    refine r_isub hC dX6_layAhead_29 ?_
    refine r_icmp_ne 37 hC dX6_layAhead_30 (by decide) (fun h => ?_) (fun h => ?_)
    · have hf := if_F hf h
      refine r_iconst (v := 0) hC dX6_layAhead_37 rfl ?_
      exact w_X6_layAhead_b38 hC hz hZ r1 v2 v3 hr1 k7 k13 hk7 hk13 0 _ hf
    · have hf := if_T hf h
      refine r_iconst (v := 1) hC dX6_layAhead_33 rfl ?_
      refine r_goto 38 hC dX6_layAhead_34 (by decide) ?_
      exact w_X6_layAhead_b38 hC hz hZ r1 v2 v3 hr1 k7 k13 hk7 hk13 1 _ hf
set_option maxRecDepth 20000 in
theorem w_X6_layAhead_b7 {X : XX} {G : GG} {Z : ZZ} {r : Unit} {M' : Mem} (hC : Cx X G RX6 cX6_layAhead none 6 0 0 6) (hz : ZOk G Z) (hZ : ZM Z) (r1 : Nat) (hr1 : ArI r1) (k7 : Int32 → Mem → Option (Unit × Mem)) (hk7 : ∀ (u2 : Int32) (M : Mem), k7 u2 M = some (r, M') → V X G Z M 0 0 (QN X G (QcV G Z r M') 0 0) 7 [(0, .ref (Z.1 27)), (1, .ref (Z.1 r1)), (2, .int u2)] []) (v2 : Int32) (M : Mem) (hf : f_X6_layAhead_b7 r1 k7 v2 M = some (r, M')) : V X G Z M 0 0 (QN X G (QcV G Z r M') 0 0) 7 [(0, .ref (Z.1 27)), (1, .ref (Z.1 r1)), (2, .int v2)] [] := by
  unfold f_X6_layAhead_b7 at hf
  refine r_iload_n hC dX6_layAhead_7 2 rfl ?_
  refine r_if_lt 117 hC dX6_layAhead_8 (by decide) (fun h => ?_) (fun h => ?_)
  · have hf := if_T hf h
    exact r_vret hf hC (by decide) (by decide) dX6_layAhead_117
  · have hf := if_F hf h
    refine r_iconst (v := 0) hC dX6_layAhead_11 rfl ?_
    refine r_istore_n (L' := [(3, .int 0), (0, .ref (Z.1 27)), (1, .ref (Z.1 r1)), (2, .int v2)]) hC dX6_layAhead_12 (by decide) rfl ?_
    refine r_L [1, 2, 3, 0] rfl ?_
    exact lq1_ind (P := fun (u3 : Int32) (M : Mem) => V X G Z M 0 0 (QN X G (QcV G Z r M') 0 0) 13 [(0, .ref (Z.1 27)), (1, .ref (Z.1 r1)), (2, .int v2), (3, .int u3)] []) (fun kk hkk u3 M hf => w_X6_layAhead_b13 hC hz hZ r1 v2 hr1 k7 hk7 kk hkk u3 M hf) _ _ _ hf
set_option maxRecDepth 20000 in
theorem w_X6_layAhead {X : XX} {G : GG} {Z : ZZ} (hC : Cx X G RX6 cX6_layAhead none 6 0 0 6) (hz : ZOk G Z) (hZ : ZM Z) (r1 : Nat) (M : Mem) (hr1 : ArI r1) {r : Unit} {M' : Mem} (hf : f_X6_layAhead r1 M = some (r, M')) : V X G Z M 0 0 (QN X G (QcV G Z r M') 0 0) 0 [(0, .ref (Z.1 27)), (1, .ref (Z.1 r1))] [] := by
  unfold f_X6_layAhead at hf
  refine r_aload_n hC dX6_layAhead_0 1 rfl ?_
  refine r_bipush (v := 7) hC dX6_layAhead_1 rfl ?_
  have hin := if_K hf
  have hf := if_V hf
  refine r_iald hC (z_r hZ hr1) (inb_vp hin) dX6_layAhead_3 ?_
  refine r_iconst (v := 1) hC dX6_layAhead_4 rfl ?_
  refine r_isub hC dX6_layAhead_5 ?_
  refine r_istore_n (L' := [(2, .int ((M r1 (Int32.toNatClampNeg 7)) - 1)), (0, .ref (Z.1 27)), (1, .ref (Z.1 r1))]) hC dX6_layAhead_6 (by decide) rfl ?_
  refine r_L [1, 2, 0] rfl ?_
  exact lq1_ind (P := fun (u2 : Int32) (M : Mem) => V X G Z M 0 0 (QN X G (QcV G Z r M') 0 0) 7 [(0, .ref (Z.1 27)), (1, .ref (Z.1 r1)), (2, .int u2)] []) (fun kk hkk u2 M hf => w_X6_layAhead_b7 hC hz hZ r1 hr1 kk hkk u2 M hf) _ _ _ hf
set_option maxRecDepth 20000 in
theorem c_X6_layAhead {l : Launch} (hl : l.stackTraces = false) {G : GG} {Z : ZZ} (hz : ZOk G Z) (hZ : ZM Z) (r1 : Nat) (M : Mem) (hr1 : ArI r1) (r : Unit) (M' : Mem) (hf : f_X6_layAhead r1 M = some (r, M')) : CN (QcV G Z r M') l G Z yX6_layAhead cX6_layAhead 6 none 6 [.ref (Z.1 27), .ref (Z.1 r1)] M :=
  CN.of [(0, .ref (Z.1 27)), (1, .ref (Z.1 r1))] hl (by decide +kernel) (Nat.le_of_ble_eq_true rfl) rfl (fun _ hC => w_X6_layAhead hC hz hZ r1 M hr1 hf)
set_option maxRecDepth 20000 in
theorem w_X6_lay_b33 {X : XX} {G : GG} {Z : ZZ} {r : Unit} {M' : Mem} (hC : Cx X G RX6 cX6_lay none 7 0 0 4) (hz : ZOk G Z) (hZ : ZM Z) (r1 : Nat) (v2 : Int32) (hr1 : ArI r1) (k7 : Int32 → Mem → Option (Unit × Mem)) (hk7 : ∀ (u2 : Int32) (M : Mem), k7 u2 M = some (r, M') → V X G Z M 0 0 (QN X G (QcV G Z r M') 0 0) 7 [(0, .ref (Z.1 27)), (1, .ref (Z.1 r1)), (2, .int u2)] []) (k33 : Mem → Option (Unit × Mem)) (hk33 : ∀  (M : Mem), k33  M = some (r, M') → V X G Z M 0 0 (QN X G (QcV G Z r M') 0 0) 33 [(0, .ref (Z.1 27)), (1, .ref (Z.1 r1)), (2, .int v2)] []) (M : Mem) (hf : f_X6_lay_b33 r1 v2 k7 k33 M = some (r, M')) : V X G Z M 0 0 (QN X G (QcV G Z r M') 0 0) 33 [(0, .ref (Z.1 27)), (1, .ref (Z.1 r1)), (2, .int v2)] [] := by
  unfold f_X6_lay_b33 at hf
  refine r_aload_n hC dX6_lay_33 0 rfl ?_
  refine gf_X6_47 hC (z_1 hZ 27 (by decide) rfl) rfl dX6_lay_34 ?_
  refine r_iload_n hC dX6_lay_37 2 rfl ?_
  have hin := if_K hf
  have hf := if_V hf
  refine r_iald hC (z_1 hZ 40 (by decide) rfl) (inb_vp hin) dX6_lay_38 ?_
  refine r_if_ne 63 hC dX6_lay_39 (by decide) (fun h => ?_) (fun h => ?_)
  · have hf := if_F hf h
    refine r_iinc (v := v2 + 1) (L' := [(2, .int (v2 + 1)), (0, .ref (Z.1 27)), (1, .ref (Z.1 r1))]) hC dX6_lay_63 2 rfl rfl (by decide) rfl ?_
    refine r_goto 7 hC dX6_lay_66 (by decide) ?_
    refine r_L [1, 2, 0] rfl ?_
    exact hk7 _ _ hf
  · have hf := if_T hf h
    refine r_aload_n hC dX6_lay_42 0 rfl ?_
    refine r_aload_n hC dX6_lay_43 1 rfl ?_
    refine r_iload_n hC dX6_lay_44 2 rfl ?_
    refine r_callVV [] (fun r M1 h => c_X6_dropInner (cx_st hC) hz hZ r1 v2 _ hr1 r M1 h) hf cs_X6_148 hC (z_1 hZ 27 (by decide) rfl) (q0 := (RX6, TX6, 19)) rfl rfl [.ref (Z.1 r1), .int v2] rfl rfl rfl (by decide) (by decide) (Nat.le_of_ble_eq_true rfl) (by decide) (by decide) dX6_lay_45 (fun x9 M10 hf => ?_)
    refine r_aload_n hC dX6_lay_48 0 rfl ?_
    refine r_aload_n hC dX6_lay_49 1 rfl ?_
    refine r_iload_n hC dX6_lay_50 2 rfl ?_
    refine r_callVV [] (fun r M1 h => c_X6_layRow (cx_st hC) hz hZ r1 v2 _ hr1 r M1 h) hf cs_X6_142 hC (z_1 hZ 27 (by decide) rfl) (q0 := (RX6, TX6, 19)) rfl rfl [.ref (Z.1 r1), .int v2] rfl rfl rfl (by decide) (by decide) (Nat.le_of_ble_eq_true rfl) (by decide) (by decide) dX6_lay_51 (fun x11 M12 hf => ?_)
    refine r_aload_n hC dX6_lay_54 0 rfl ?_
    refine r_aload_n hC dX6_lay_55 1 rfl ?_
    refine r_iload_n hC dX6_lay_56 2 rfl ?_
    refine r_callVV [] (fun r M1 h => c_X6_layPossible (cx_st hC) hz hZ r1 v2 _ hr1 r M1 h) hf cs_X6_145 hC (z_1 hZ 27 (by decide) rfl) (q0 := (RX6, TX6, 19)) rfl rfl [.ref (Z.1 r1), .int v2] rfl rfl rfl (by decide) (by decide) (Nat.le_of_ble_eq_true rfl) (by decide) (by decide) dX6_lay_57 (fun x13 M14 hf => ?_)
    refine r_goto 33 hC dX6_lay_60 (by decide) ?_
    exact hk33 _ hf
set_option maxRecDepth 20000 in
theorem w_X6_lay_b125 {X : XX} {G : GG} {Z : ZZ} {r : Unit} {M' : Mem} (hC : Cx X G RX6 cX6_lay none 7 0 0 4) (hz : ZOk G Z) (hZ : ZM Z) (r1 : Nat) (v2 : Int32) (v3 : Int32) (hr1 : ArI r1) (k93 : Int32 → Mem → Option (Unit × Mem)) (hk93 : ∀ (u3 : Int32) (M : Mem), k93 u3 M = some (r, M') → V X G Z M 0 0 (QN X G (QcV G Z r M') 0 0) 93 [(0, .ref (Z.1 27)), (1, .ref (Z.1 r1)), (2, .int v2), (3, .int u3)] []) (s0 : Int32) (s1 : Int32) (s2 : Nat) (s4 : Int32) (s5 : Nat) (hs2 : ArI s2) (hs5 : ArI s5) (M : Mem) (hf : f_X6_lay_b125 r1 v2 v3 k93 s0 s1 s2 s4 s5 M = some (r, M')) : V X G Z M 0 0 (QN X G (QcV G Z r M') 0 0) 125 [(0, .ref (Z.1 27)), (1, .ref (Z.1 r1)), (2, .int v2), (3, .int v3)] [.int s0, .int s1, .ref (Z.1 s2), .ref (Z.1 27), .int s4, .ref (Z.1 s5)] := by
  unfold f_X6_lay_b125 at hf
  refine r_iload_n hC dX6_lay_125 2 rfl ?_
  refine r_callVI [.int s4, .ref (Z.1 s5)] (fun r M1 h => c_X6_cheapest (cx_st hC) hz hZ s2 s1 s0 v2 _ hs2 r M1 h) hf cs_X6_131 hC (z_1 hZ 27 (by decide) rfl) (q0 := (RX6, TX6, 19)) rfl rfl [.ref (Z.1 s2), .int s1, .int s0, .int v2] rfl rfl rfl (by decide) (by decide) (Nat.le_of_ble_eq_true rfl) (by decide) (by decide) dX6_lay_126 (fun x17 M18 hf => ?_)
  have hin := if_K hf
  have hf := if_V hf
  refine r_iast hC hz (z_r hZ hs5) (inb_vp hin) dX6_lay_129 ?_
  refine r_iinc (v := v3 + 1) (L' := [(3, .int (v3 + 1)), (0, .ref (Z.1 27)), (1, .ref (Z.1 r1)), (2, .int v2)]) hC dX6_lay_130 3 rfl rfl (by decide) rfl ?_
  refine r_goto 93 hC dX6_lay_133 (by decide) ?_
  refine r_L [1, 2, 3, 0] rfl ?_
  exact hk93 _ _ hf
set_option maxRecDepth 20000 in
theorem w_X6_lay_b93 {X : XX} {G : GG} {Z : ZZ} {r : Unit} {M' : Mem} (hC : Cx X G RX6 cX6_lay none 7 0 0 4) (hz : ZOk G Z) (hZ : ZM Z) (r1 : Nat) (v2 : Int32) (hr1 : ArI r1) (k93 : Int32 → Mem → Option (Unit × Mem)) (hk93 : ∀ (u3 : Int32) (M : Mem), k93 u3 M = some (r, M') → V X G Z M 0 0 (QN X G (QcV G Z r M') 0 0) 93 [(0, .ref (Z.1 27)), (1, .ref (Z.1 r1)), (2, .int v2), (3, .int u3)] []) (v3 : Int32) (M : Mem) (hf : f_X6_lay_b93 r1 v2 k93 v3 M = some (r, M')) : V X G Z M 0 0 (QN X G (QcV G Z r M') 0 0) 93 [(0, .ref (Z.1 27)), (1, .ref (Z.1 r1)), (2, .int v2), (3, .int v3)] [] := by
  unfold f_X6_lay_b93 at hf
  refine r_iload_n hC dX6_lay_93 3 rfl ?_
  refine r_aload_n hC dX6_lay_94 1 rfl ?_
  refine r_bipush (v := 7) hC dX6_lay_95 rfl ?_
  have hin := if_K hf
  have hf := if_V hf
  refine r_iald hC (z_r hZ hr1) (inb_vp hin) dX6_lay_97 ?_
  refine r_icmp_ge 136 hC dX6_lay_98 (by decide) (fun h => ?_) (fun h => ?_)
  · have hf := if_T hf h
    exact r_vret hf hC (by decide) (by decide) dX6_lay_136
  · have hf := if_F hf h
    refine r_aload_n hC dX6_lay_101 0 rfl ?_
    refine gf_X6_50 hC (z_1 hZ 27 (by decide) rfl) rfl dX6_lay_102 ?_
    refine r_iload_n hC dX6_lay_105 3 rfl ?_
    refine r_aload_n hC dX6_lay_106 0 rfl ?_
    refine r_aload_n hC dX6_lay_107 1 rfl ?_
    refine r_iload_n hC dX6_lay_108 3 rfl ?_
    refine r_iload_n hC dX6_lay_109 3 rfl ?_
    refine r_if_ne 117 hC dX6_lay_110 (by decide) (fun h => ?_) (fun h => ?_)
    · have hf := if_F hf h
      refine r_aload_n hC dX6_lay_117 0 rfl ?_
      refine gf_X6_50 hC (z_1 hZ 27 (by decide) rfl) rfl dX6_lay_118 ?_
      refine r_iload_n hC dX6_lay_121 3 rfl ?_
      refine r_iconst (v := 1) hC dX6_lay_122 rfl ?_
      refine r_isub hC dX6_lay_123 ?_
      have hin := if_K hf
      have hf := if_V hf
      refine r_iald hC (z_1 hZ 41 (by decide) rfl) (inb_vp hin) dX6_lay_124 ?_
      exact w_X6_lay_b125 hC hz hZ r1 v2 v3 hr1 k93 hk93 (M 41 (Int32.toNatClampNeg (v3 - 1))) v3 r1 v3 41 hr1 ⟨by decide, rfl⟩ _ hf
    · have hf := if_T hf h
      refine r_iconst (v := 0) hC dX6_lay_113 rfl ?_
      refine r_goto 125 hC dX6_lay_114 (by decide) ?_
      exact w_X6_lay_b125 hC hz hZ r1 v2 v3 hr1 k93 hk93 0 v3 r1 v3 41 hr1 ⟨by decide, rfl⟩ _ hf
set_option maxRecDepth 20000 in
theorem w_X6_lay_b91 {X : XX} {G : GG} {Z : ZZ} {r : Unit} {M' : Mem} (hC : Cx X G RX6 cX6_lay none 7 0 0 4) (hz : ZOk G Z) (hZ : ZM Z) (r1 : Nat) (v2 : Int32) (hr1 : ArI r1) (M : Mem) (hf : f_X6_lay_b91 r1 v2 M = some (r, M')) : V X G Z M 0 0 (QN X G (QcV G Z r M') 0 0) 91 [(0, .ref (Z.1 27)), (1, .ref (Z.1 r1)), (2, .int v2)] [] := by
  unfold f_X6_lay_b91 at hf
  refine r_iconst (v := 0) hC dX6_lay_91 rfl ?_
  refine r_istore_n (L' := [(3, .int 0), (0, .ref (Z.1 27)), (1, .ref (Z.1 r1)), (2, .int v2)]) hC dX6_lay_92 (by decide) rfl ?_
  refine r_L [1, 2, 3, 0] rfl ?_
  exact lq1_ind (P := fun (u3 : Int32) (M : Mem) => V X G Z M 0 0 (QN X G (QcV G Z r M') 0 0) 93 [(0, .ref (Z.1 27)), (1, .ref (Z.1 r1)), (2, .int v2), (3, .int u3)] []) (fun kk hkk u3 M hf => w_X6_lay_b93 hC hz hZ r1 v2 hr1 kk hkk u3 M hf) _ _ _ hf
set_option maxRecDepth 20000 in
theorem w_X6_lay_b81 {X : XX} {G : GG} {Z : ZZ} {r : Unit} {M' : Mem} (hC : Cx X G RX6 cX6_lay none 7 0 0 4) (hz : ZOk G Z) (hZ : ZM Z) (r1 : Nat) (hr1 : ArI r1) (s0 : Int32) (M : Mem) (hf : f_X6_lay_b81 r1 s0 M = some (r, M')) : V X G Z M 0 0 (QN X G (QcV G Z r M') 0 0) 81 [(0, .ref (Z.1 27)), (1, .ref (Z.1 r1))] [.int s0] := by
  unfold f_X6_lay_b81 at hf
  refine r_istore_n (L' := [(2, .int s0), (0, .ref (Z.1 27)), (1, .ref (Z.1 r1))]) hC dX6_lay_81 (by decide) rfl ?_
  refine r_iload_n hC dX6_lay_82 0 rfl ?_
  refine r_if_eq 91 hC dX6_lay_83 (by decide) (fun h => ?_) (fun h => ?_)
  · have hf := if_T hf h
    refine r_L [1, 2, 0] rfl ?_
    exact w_X6_lay_b91 hC hz hZ r1 s0 hr1 _ hf
  · have hf := if_F hf h
    refine r_aload_n hC dX6_lay_86 1 rfl ?_
    refine r_aload_n hC dX6_lay_87 2 rfl ?_
    refine r_callVV [] (fun r M1 h => c_X6_layAhead (cx_st hC) hz hZ r1 _ hr1 r M1 h) hf cs_X6_151 hC (z_1 hZ 27 (by decide) rfl) (q0 := (RX6, TX6, 19)) rfl rfl [.ref (Z.1 r1)] rfl rfl rfl (by decide) (by decide) (Nat.le_of_ble_eq_true rfl) (by decide) (by decide) dX6_lay_88 (fun x15 M16 hf => ?_)
    refine r_L [1, 2, 0] rfl ?_
    exact w_X6_lay_b91 hC hz hZ r1 s0 hr1 _ hf
set_option maxRecDepth 20000 in
theorem w_X6_lay_b69 {X : XX} {G : GG} {Z : ZZ} {r : Unit} {M' : Mem} (hC : Cx X G RX6 cX6_lay none 7 0 0 4) (hz : ZOk G Z) (hZ : ZM Z) (r1 : Nat) (hr1 : ArI r1) (M : Mem) (hf : f_X6_lay_b69 r1 M = some (r, M')) : V X G Z M 0 0 (QN X G (QcV G Z r M') 0 0) 69 [(0, .ref (Z.1 27)), (1, .ref (Z.1 r1))] [] := by
  unfold f_X6_lay_b69 at hf
  refine r_aload_n hC dX6_lay_69 1 rfl ?_
  refine r_iconst (v := 5) hC dX6_lay_70 rfl ?_
  have hin := if_K hf
  have hf := if_V hf
  refine r_iald hC (z_r hZ hr1) (inb_vp hin) dX6_lay_71 ?_
  refine r_iconst (v := 1) hC dX6_lay_72 rfl ?_
  refine r_icmp_ne 80 hC dX6_lay_73 (by decide) (fun h => ?_) (fun h => ?_)
  · have hf := if_F hf h
    refine r_iconst (v := 0) hC dX6_lay_80 rfl ?_
    exact w_X6_lay_b81 hC hz hZ r1 hr1 0 _ hf
  · have hf := if_T hf h
    refine r_iconst (v := 1) hC dX6_lay_76 rfl ?_
    refine r_goto 81 hC dX6_lay_77 (by decide) ?_
    exact w_X6_lay_b81 hC hz hZ r1 hr1 1 _ hf
set_option maxRecDepth 20000 in
theorem w_X6_lay_b7 {X : XX} {G : GG} {Z : ZZ} {r : Unit} {M' : Mem} (hC : Cx X G RX6 cX6_lay none 7 0 0 4) (hz : ZOk G Z) (hZ : ZM Z) (r1 : Nat) (hr1 : ArI r1) (k7 : Int32 → Mem → Option (Unit × Mem)) (hk7 : ∀ (u2 : Int32) (M : Mem), k7 u2 M = some (r, M') → V X G Z M 0 0 (QN X G (QcV G Z r M') 0 0) 7 [(0, .ref (Z.1 27)), (1, .ref (Z.1 r1)), (2, .int u2)] []) (v2 : Int32) (M : Mem) (hf : f_X6_lay_b7 r1 k7 v2 M = some (r, M')) : V X G Z M 0 0 (QN X G (QcV G Z r M') 0 0) 7 [(0, .ref (Z.1 27)), (1, .ref (Z.1 r1)), (2, .int v2)] [] := by
  unfold f_X6_lay_b7 at hf
  refine r_iload_n hC dX6_lay_7 2 rfl ?_
  refine r_aload_n hC dX6_lay_8 1 rfl ?_
  refine r_bipush (v := 7) hC dX6_lay_9 rfl ?_
  have hin := if_K hf
  have hf := if_V hf
  refine r_iald hC (z_r hZ hr1) (inb_vp hin) dX6_lay_11 ?_
  refine r_icmp_ge 69 hC dX6_lay_12 (by decide) (fun h => ?_) (fun h => ?_)
  · have hf := if_T hf h
    refine r_L [0, 1] rfl ?_
    exact w_X6_lay_b69 hC hz hZ r1 hr1 _ hf
  · have hf := if_F hf h
    refine r_aload_n hC dX6_lay_15 0 rfl ?_
    refine r_aload_n hC dX6_lay_16 1 rfl ?_
    refine r_iload_n hC dX6_lay_17 2 rfl ?_
    refine r_callVV [] (fun r M1 h => c_X6_layReasons (cx_st hC) hz hZ r1 v2 _ hr1 r M1 h) hf cs_X6_138 hC (z_1 hZ 27 (by decide) rfl) (q0 := (RX6, TX6, 19)) rfl rfl [.ref (Z.1 r1), .int v2] rfl rfl rfl (by decide) (by decide) (Nat.le_of_ble_eq_true rfl) (by decide) (by decide) dX6_lay_18 (fun x3 M4 hf => ?_)
    refine r_aload_n hC dX6_lay_21 0 rfl ?_
    refine r_aload_n hC dX6_lay_22 1 rfl ?_
    refine r_iload_n hC dX6_lay_23 2 rfl ?_
    refine r_callVV [] (fun r M1 h => c_X6_layRow (cx_st hC) hz hZ r1 v2 _ hr1 r M1 h) hf cs_X6_142 hC (z_1 hZ 27 (by decide) rfl) (q0 := (RX6, TX6, 19)) rfl rfl [.ref (Z.1 r1), .int v2] rfl rfl rfl (by decide) (by decide) (Nat.le_of_ble_eq_true rfl) (by decide) (by decide) dX6_lay_24 (fun x5 M6 hf => ?_)
    refine r_aload_n hC dX6_lay_27 0 rfl ?_
    refine r_aload_n hC dX6_lay_28 1 rfl ?_
    refine r_iload_n hC dX6_lay_29 2 rfl ?_
    refine r_callVV [] (fun r M1 h => c_X6_layPossible (cx_st hC) hz hZ r1 v2 _ hr1 r M1 h) hf cs_X6_145 hC (z_1 hZ 27 (by decide) rfl) (q0 := (RX6, TX6, 19)) rfl rfl [.ref (Z.1 r1), .int v2] rfl rfl rfl (by decide) (by decide) (Nat.le_of_ble_eq_true rfl) (by decide) (by decide) dX6_lay_30 (fun x7 M8 hf => ?_)
    exact lq0_ind (P := fun  (M : Mem) => V X G Z M 0 0 (QN X G (QcV G Z r M') 0 0) 33 [(0, .ref (Z.1 27)), (1, .ref (Z.1 r1)), (2, .int v2)] []) (fun kk hkk  M hf => w_X6_lay_b33 hC hz hZ r1 v2 hr1 k7 hk7 kk hkk  M hf) _ _ hf
set_option maxRecDepth 20000 in
theorem w_X6_lay {X : XX} {G : GG} {Z : ZZ} (hC : Cx X G RX6 cX6_lay none 7 0 0 4) (hz : ZOk G Z) (hZ : ZM Z) (r1 : Nat) (M : Mem) (hr1 : ArI r1) {r : Unit} {M' : Mem} (hf : f_X6_lay r1 M = some (r, M')) : V X G Z M 0 0 (QN X G (QcV G Z r M') 0 0) 0 [(0, .ref (Z.1 27)), (1, .ref (Z.1 r1))] [] := by
  unfold f_X6_lay at hf
  refine r_aload_n hC dX6_lay_0 0 rfl ?_
  refine r_aload_n hC dX6_lay_1 1 rfl ?_
  refine r_callVV [] (fun r M1 h => c_X6_laySounds (cx_st hC) hz hZ r1 _ hr1 r M1 h) hf cs_X6_135 hC (z_1 hZ 27 (by decide) rfl) (q0 := (RX6, TX6, 19)) rfl rfl [.ref (Z.1 r1)] rfl rfl rfl (by decide) (by decide) (Nat.le_of_ble_eq_true rfl) (by decide) (by decide) dX6_lay_2 (fun x1 M2 hf => ?_)
  refine r_iconst (v := 0) hC dX6_lay_5 rfl ?_
  refine r_istore_n (L' := [(2, .int 0), (0, .ref (Z.1 27)), (1, .ref (Z.1 r1))]) hC dX6_lay_6 (by decide) rfl ?_
  refine r_L [1, 2, 0] rfl ?_
  exact lq1_ind (P := fun (u2 : Int32) (M : Mem) => V X G Z M 0 0 (QN X G (QcV G Z r M') 0 0) 7 [(0, .ref (Z.1 27)), (1, .ref (Z.1 r1)), (2, .int u2)] []) (fun kk hkk u2 M hf => w_X6_lay_b7 hC hz hZ r1 hr1 kk hkk u2 M hf) _ _ _ hf
set_option maxRecDepth 20000 in
theorem c_X6_lay {l : Launch} (hl : l.stackTraces = false) {G : GG} {Z : ZZ} (hz : ZOk G Z) (hZ : ZM Z) (r1 : Nat) (M : Mem) (hr1 : ArI r1) (r : Unit) (M' : Mem) (hf : f_X6_lay r1 M = some (r, M')) : CN (QcV G Z r M') l G Z yX6_lay cX6_lay 4 none 7 [.ref (Z.1 27), .ref (Z.1 r1)] M :=
  CN.of [(0, .ref (Z.1 27)), (1, .ref (Z.1 r1))] hl (by decide +kernel) (Nat.le_of_ble_eq_true rfl) rfl (fun _ hC => w_X6_lay hC hz hZ r1 M hr1 hf)
set_option maxRecDepth 20000 in
theorem w_X6_before {X : XX} {G : GG} {Z : ZZ} (hC : Cx X G RX6 cX6_before (some .int) 0 0 0 2) (hz : ZOk G Z) (hZ : ZM Z) (v1 : Int32) (M : Mem)  {r : Int32} {M' : Mem} (hf : f_X6_before v1 M = some (r, M')) : V X G Z M 0 0 (QN X G (QcI G Z r M') 0 0) 0 [(0, .ref (Z.1 27)), (1, .int v1)] [] := by
  unfold f_X6_before at hf
  refine r_iload_n hC dX6_before_0 1 rfl ?_
  refine r_if_ne 8 hC dX6_before_1 (by decide) (fun h => ?_) (fun h => ?_)
  · have hf := if_F hf h
    refine r_aload_n hC dX6_before_8 0 rfl ?_
    refine gf_X6_50 hC (z_1 hZ 27 (by decide) rfl) rfl dX6_before_9 ?_
    refine r_iload_n hC dX6_before_12 1 rfl ?_
    refine r_iconst (v := 1) hC dX6_before_13 rfl ?_
    refine r_isub hC dX6_before_14 ?_
    have hin := if_K hf
    have hf := if_V hf
    refine r_iald hC (z_1 hZ 41 (by decide) rfl) (inb_vp hin) dX6_before_15 ?_
    exact r_iret hf hC (by decide) (by decide) dX6_before_16
  · have hf := if_T hf h
    refine r_iconst (v := 0) hC dX6_before_4 rfl ?_
    refine r_goto 16 hC dX6_before_5 (by decide) ?_
    exact r_iret hf hC (by decide) (by decide) dX6_before_16
set_option maxRecDepth 20000 in
theorem c_X6_before {l : Launch} (hl : l.stackTraces = false) {G : GG} {Z : ZZ} (hz : ZOk G Z) (hZ : ZM Z) (v1 : Int32) (M : Mem)  (r : Int32) (M' : Mem) (hf : f_X6_before v1 M = some (r, M')) : CN (QcI G Z r M') l G Z yX6_before cX6_before 2 (some .int) 0 [.ref (Z.1 27), .int v1] M :=
  CN.of [(0, .ref (Z.1 27)), (1, .int v1)] hl (by decide +kernel) (Nat.le_of_ble_eq_true rfl) rfl (fun _ hC => w_X6_before hC hz hZ v1 M  hf)
set_option maxRecDepth 20000 in
theorem w_X6_isCutHere {X : XX} {G : GG} {Z : ZZ} (hC : Cx X G RX6 cX6_isCutHere (some .boolean) 3 0 0 4) (hz : ZOk G Z) (hZ : ZM Z) (r1 : Nat) (v2 : Int32) (v3 : Int32) (M : Mem) (hr1 : ArI r1) {r : Int32} {M' : Mem} (hf : f_X6_isCutHere r1 v2 v3 M = some (r, M')) : V X G Z M 0 0 (QN X G (QcI G Z r M') 0 0) 0 [(0, .ref (Z.1 27)), (1, .ref (Z.1 r1)), (2, .int v2), (3, .int v3)] [] := by
  unfold f_X6_isCutHere at hf
  refine r_iload_n hC dX6_isCutHere_0 3 rfl ?_
  refine r_if_le 29 hC dX6_isCutHere_1 (by decide) (fun h => ?_) (fun h => ?_)
  · have hf := if_T hf h
    refine r_iconst (v := 0) hC dX6_isCutHere_29 rfl ?_
    exact r_zret hf hC rfl rfl (by decide) (by decide) dX6_isCutHere_30
  · have hf := if_F hf h
    refine r_aload_n hC dX6_isCutHere_4 0 rfl ?_
    refine r_aload_n hC dX6_isCutHere_5 1 rfl ?_
    refine r_iload_n hC dX6_isCutHere_6 2 rfl ?_
    refine r_iload_n hC dX6_isCutHere_7 3 rfl ?_
    refine r_aload_n hC dX6_isCutHere_8 0 rfl ?_
    refine r_iload_n hC dX6_isCutHere_9 3 rfl ?_
    refine r_callVI [.int v3, .int v2, .ref (Z.1 r1), .ref (Z.1 27)] (fun r M1 h => c_X6_before (cx_st hC) hz hZ v3 _  r M1 h) hf cs_X6_154 hC (z_1 hZ 27 (by decide) rfl) (q0 := (RX6, TX6, 19)) rfl rfl [.int v3] rfl rfl rfl (by decide) (by decide) (Nat.le_of_ble_eq_true rfl) (by decide) (by decide) dX6_isCutHere_10 (fun x1 M2 hf => ?_)
    refine r_aload_n hC dX6_isCutHere_13 0 rfl ?_
    refine gf_X6_50 hC (z_1 hZ 27 (by decide) rfl) rfl dX6_isCutHere_14 ?_
    refine r_iload_n hC dX6_isCutHere_17 3 rfl ?_
    have hin := if_K hf
    have hf := if_V hf
    refine r_iald hC (z_1 hZ 41 (by decide) rfl) (inb_vp hin) dX6_isCutHere_18 ?_
    refine r_callVI [] (fun r M1 h => c_X6_isCut (cx_st hC) hz hZ r1 v2 v3 x1 (M2 41 (Int32.toNatClampNeg v3)) _ hr1 r M1 h) hf cs_X6_120 hC (z_1 hZ 27 (by decide) rfl) (q0 := (RX6, TX6, 19)) rfl rfl [.ref (Z.1 r1), .int v2, .int v3, .int x1, .int (M2 41 (Int32.toNatClampNeg v3))] rfl rfl rfl (by decide) (by decide) (Nat.le_of_ble_eq_true rfl) (by decide) (by decide) dX6_isCutHere_19 (fun x3 M4 hf => ?_)
    refine r_if_eq 29 hC dX6_isCutHere_22 (by decide) (fun h => ?_) (fun h => ?_)
    · have hf := if_T hf h
      refine r_iconst (v := 0) hC dX6_isCutHere_29 rfl ?_
      exact r_zret hf hC rfl rfl (by decide) (by decide) dX6_isCutHere_30
    · have hf := if_F hf h
      refine r_iconst (v := 1) hC dX6_isCutHere_25 rfl ?_
      refine r_goto 30 hC dX6_isCutHere_26 (by decide) ?_
      exact r_zret hf hC rfl rfl (by decide) (by decide) dX6_isCutHere_30
set_option maxRecDepth 20000 in
theorem c_X6_isCutHere {l : Launch} (hl : l.stackTraces = false) {G : GG} {Z : ZZ} (hz : ZOk G Z) (hZ : ZM Z) (r1 : Nat) (v2 : Int32) (v3 : Int32) (M : Mem) (hr1 : ArI r1) (r : Int32) (M' : Mem) (hf : f_X6_isCutHere r1 v2 v3 M = some (r, M')) : CN (QcI G Z r M') l G Z yX6_isCutHere cX6_isCutHere 4 (some .boolean) 3 [.ref (Z.1 27), .ref (Z.1 r1), .int v2, .int v3] M :=
  CN.of [(0, .ref (Z.1 27)), (1, .ref (Z.1 r1)), (2, .int v2), (3, .int v3)] hl (by decide +kernel) (Nat.le_of_ble_eq_true rfl) rfl (fun _ hC => w_X6_isCutHere hC hz hZ r1 v2 v3 M hr1 hf)
set_option maxRecDepth 20000 in
theorem w_X6_wholeOf_b58 {X : XX} {G : GG} {Z : ZZ} {r : Int32} {M' : Mem} (hC : Cx X G RX6 cX6_wholeOf (some .int) 8 0 0 8) (hz : ZOk G Z) (hZ : ZM Z) (r1 : Nat) (v2 : Int32) (v4 : Int32) (v5 : Int32) (hr1 : ArI r1) (k10 : Int32 → Int32 → Mem → Option (Int32 × Mem)) (k22 : Int32 → Int32 → Mem → Option (Int32 × Mem)) (hk10 : ∀ (u3 : Int32) (u4 : Int32) (M : Mem), k10 u3 u4 M = some (r, M') → V X G Z M 0 0 (QN X G (QcI G Z r M') 0 0) 10 [(0, .ref (Z.1 27)), (1, .ref (Z.1 r1)), (2, .int v2), (3, .int u3), (4, .int u4)] []) (hk22 : ∀ (u3 : Int32) (u5 : Int32) (M : Mem), k22 u3 u5 M = some (r, M') → V X G Z M 0 0 (QN X G (QcI G Z r M') 0 0) 22 [(0, .ref (Z.1 27)), (1, .ref (Z.1 r1)), (2, .int v2), (3, .int u3), (4, .int v4), (5, .int u5)] []) (s0 : Int32) (s1 : Int32) (M : Mem) (hf : f_X6_wholeOf_b58 r1 v2 v4 v5 k10 k22 s0 s1 M = some (r, M')) : V X G Z M 0 0 (QN X G (QcI G Z r M') 0 0) 58 [(0, .ref (Z.1 27)), (1, .ref (Z.1 r1)), (2, .int v2), (4, .int v4), (5, .int v5)] [.int s0, .int s1] := by
  unfold f_X6_wholeOf_b58 at hf
  refine r_iadd hC dX6_wholeOf_58 ?_
  refine r_istore_n (L' := [(3, .int (s1 + s0)), (0, .ref (Z.1 27)), (1, .ref (Z.1 r1)), (2, .int v2), (4, .int v4), (5, .int v5)]) hC dX6_wholeOf_59 (by decide) rfl ?_
  refine r_iload_n hC dX6_wholeOf_60 0 rfl ?_
  refine r_iload_n hC dX6_wholeOf_61 3 rfl ?_
  refine r_bipush (v := 6) hC dX6_wholeOf_62 rfl ?_
  refine r_icmp_ne 91 hC dX6_wholeOf_64 (by decide) (fun h => ?_) (fun h => ?_)
  · have hf := if_F hf h
    refine r_iconst (v := 0) hC dX6_wholeOf_91 rfl ?_
    refine r_iadd hC dX6_wholeOf_92 ?_
    refine r_istore_n (L' := [(3, .int ((s1 + s0) + 0)), (0, .ref (Z.1 27)), (1, .ref (Z.1 r1)), (2, .int v2), (4, .int v4), (5, .int v5)]) hC dX6_wholeOf_93 (by decide) rfl ?_
    refine r_iinc (v := v5 + 1) (L' := [(5, .int (v5 + 1)), (3, .int ((s1 + s0) + 0)), (0, .ref (Z.1 27)), (1, .ref (Z.1 r1)), (2, .int v2), (4, .int v4)]) hC dX6_wholeOf_94 5 rfl rfl (by decide) rfl ?_
    refine r_goto 22 hC dX6_wholeOf_97 (by decide) ?_
    refine r_L [2, 3, 4, 1, 5, 0] rfl ?_
    exact hk22 _ _ _ hf
  · have hf := if_T hf h
    refine r_aload_n hC dX6_wholeOf_67 1 rfl ?_
    refine r_iload hC dX6_wholeOf_68 5 rfl ?_
    refine r_iload hC dX6_wholeOf_70 4 rfl ?_
    refine r_aload_n hC dX6_wholeOf_72 1 rfl ?_
    refine r_iload hC dX6_wholeOf_73 4 rfl ?_
    refine r_callVI [.int v4, .int v5, .ref (Z.1 27), .int (s1 + s0)] (fun r M1 h => c_X6_before (cx_st hC) hz hZ v4 _  r M1 h) hf cs_X6_154 hC (z_1 hZ 27 (by decide) rfl) (q0 := (RX6, TX6, 19)) rfl rfl [.int v4] rfl rfl rfl (by decide) (by decide) (Nat.le_of_ble_eq_true rfl) (by decide) (by decide) dX6_wholeOf_75 (fun x9 M10 hf => ?_)
    refine r_aload_n hC dX6_wholeOf_78 1 rfl ?_
    refine gf_X6_50 hC (z_1 hZ 27 (by decide) rfl) rfl dX6_wholeOf_79 ?_
    refine r_iload hC dX6_wholeOf_82 4 rfl ?_
    have hin := if_K hf
    have hf := if_V hf
    refine r_iald hC (z_1 hZ 41 (by decide) rfl) (inb_vp hin) dX6_wholeOf_84 ?_
    refine r_callVI [.int (s1 + s0)] (fun r M1 h => c_X6_move (cx_st hC) hz hZ v5 v4 x9 (M10 41 (Int32.toNatClampNeg v4)) _  r M1 h) hf cs_X6_112 hC (z_1 hZ 27 (by decide) rfl) (q0 := (RX6, TX6, 19)) rfl rfl [.int v5, .int v4, .int x9, .int (M10 41 (Int32.toNatClampNeg v4))] rfl rfl rfl (by decide) (by decide) (Nat.le_of_ble_eq_true rfl) (by decide) (by decide) dX6_wholeOf_85 (fun x11 M12 hf => ?_)
    refine r_goto 92 hC dX6_wholeOf_88 (by decide) ?_
    refine r_iadd hC dX6_wholeOf_92 ?_
    refine r_istore_n (L' := [(3, .int ((s1 + s0) + x11)), (0, .ref (Z.1 27)), (1, .ref (Z.1 r1)), (2, .int v2), (4, .int v4), (5, .int v5)]) hC dX6_wholeOf_93 (by decide) rfl ?_
    refine r_iinc (v := v5 + 1) (L' := [(5, .int (v5 + 1)), (3, .int ((s1 + s0) + x11)), (0, .ref (Z.1 27)), (1, .ref (Z.1 r1)), (2, .int v2), (4, .int v4)]) hC dX6_wholeOf_94 5 rfl rfl (by decide) rfl ?_
    refine r_goto 22 hC dX6_wholeOf_97 (by decide) ?_
    refine r_L [2, 3, 4, 1, 5, 0] rfl ?_
    exact hk22 _ _ _ hf
set_option maxRecDepth 20000 in
theorem w_X6_wholeOf_b57 {X : XX} {G : GG} {Z : ZZ} {r : Int32} {M' : Mem} (hC : Cx X G RX6 cX6_wholeOf (some .int) 8 0 0 8) (hz : ZOk G Z) (hZ : ZM Z) (r1 : Nat) (v2 : Int32) (v4 : Int32) (v5 : Int32) (hr1 : ArI r1) (k10 : Int32 → Int32 → Mem → Option (Int32 × Mem)) (k22 : Int32 → Int32 → Mem → Option (Int32 × Mem)) (hk10 : ∀ (u3 : Int32) (u4 : Int32) (M : Mem), k10 u3 u4 M = some (r, M') → V X G Z M 0 0 (QN X G (QcI G Z r M') 0 0) 10 [(0, .ref (Z.1 27)), (1, .ref (Z.1 r1)), (2, .int v2), (3, .int u3), (4, .int u4)] []) (hk22 : ∀ (u3 : Int32) (u5 : Int32) (M : Mem), k22 u3 u5 M = some (r, M') → V X G Z M 0 0 (QN X G (QcI G Z r M') 0 0) 22 [(0, .ref (Z.1 27)), (1, .ref (Z.1 r1)), (2, .int v2), (3, .int u3), (4, .int v4), (5, .int u5)] []) (s0 : Int32) (M : Mem) (hf : f_X6_wholeOf_b57 r1 v2 v4 v5 k10 k22 s0 M = some (r, M')) : V X G Z M 0 0 (QN X G (QcI G Z r M') 0 0) 57 [(0, .ref (Z.1 27)), (1, .ref (Z.1 r1)), (2, .int v2), (4, .int v4), (5, .int v5)] [.int s0] := by
  unfold f_X6_wholeOf_b57 at hf
  refine r_iconst (v := 0) hC dX6_wholeOf_57 rfl ?_
  exact w_X6_wholeOf_b58 hC hz hZ r1 v2 v4 v5 hr1 k10 k22 hk10 hk22 0 s0 _ hf
set_option maxRecDepth 20000 in
theorem w_X6_wholeOf_b270 {X : XX} {G : GG} {Z : ZZ} {r : Int32} {M' : Mem} (hC : Cx X G RX6 cX6_wholeOf (some .int) 8 0 0 8) (hz : ZOk G Z) (hZ : ZM Z) (r1 : Nat) (v2 : Int32) (v4 : Int32) (v5 : Int32) (hr1 : ArI r1) (k10 : Int32 → Int32 → Mem → Option (Int32 × Mem)) (k134 : Int32 → Int32 → Mem → Option (Int32 × Mem)) (hk10 : ∀ (u3 : Int32) (u4 : Int32) (M : Mem), k10 u3 u4 M = some (r, M') → V X G Z M 0 0 (QN X G (QcI G Z r M') 0 0) 10 [(0, .ref (Z.1 27)), (1, .ref (Z.1 r1)), (2, .int v2), (3, .int u3), (4, .int u4)] []) (hk134 : ∀ (u3 : Int32) (u5 : Int32) (M : Mem), k134 u3 u5 M = some (r, M') → V X G Z M 0 0 (QN X G (QcI G Z r M') 0 0) 134 [(0, .ref (Z.1 27)), (1, .ref (Z.1 r1)), (2, .int v2), (3, .int u3), (4, .int v4), (5, .int u5)] []) (s0 : Int32) (M : Mem) (hf : f_X6_wholeOf_b270 r1 v2 v4 v5 k10 k134 s0 M = some (r, M')) : V X G Z M 0 0 (QN X G (QcI G Z r M') 0 0) 270 [(0, .ref (Z.1 27)), (1, .ref (Z.1 r1)), (2, .int v2), (4, .int v4), (5, .int v5)] [.int s0] := by
  unfold f_X6_wholeOf_b270 at hf
  refine r_iconst (v := 1) hC dX6_wholeOf_270 rfl ?_
  refine r_goto 275 hC dX6_wholeOf_271 (by decide) ?_
  refine r_iadd hC dX6_wholeOf_275 ?_
  refine r_istore_n (L' := [(3, .int (s0 + 1)), (0, .ref (Z.1 27)), (1, .ref (Z.1 r1)), (2, .int v2), (4, .int v4), (5, .int v5)]) hC dX6_wholeOf_276 (by decide) rfl ?_
  refine r_iinc (v := v5 + 1) (L' := [(5, .int (v5 + 1)), (3, .int (s0 + 1)), (0, .ref (Z.1 27)), (1, .ref (Z.1 r1)), (2, .int v2), (4, .int v4)]) hC dX6_wholeOf_277 5 rfl rfl (by decide) rfl ?_
  refine r_goto 134 hC dX6_wholeOf_280 (by decide) ?_
  refine r_L [2, 3, 4, 1, 5, 0] rfl ?_
  exact hk134 _ _ _ hf
set_option maxRecDepth 20000 in
theorem w_X6_wholeOf_b274 {X : XX} {G : GG} {Z : ZZ} {r : Int32} {M' : Mem} (hC : Cx X G RX6 cX6_wholeOf (some .int) 8 0 0 8) (hz : ZOk G Z) (hZ : ZM Z) (r1 : Nat) (v2 : Int32) (v4 : Int32) (v5 : Int32) (hr1 : ArI r1) (k10 : Int32 → Int32 → Mem → Option (Int32 × Mem)) (k134 : Int32 → Int32 → Mem → Option (Int32 × Mem)) (hk10 : ∀ (u3 : Int32) (u4 : Int32) (M : Mem), k10 u3 u4 M = some (r, M') → V X G Z M 0 0 (QN X G (QcI G Z r M') 0 0) 10 [(0, .ref (Z.1 27)), (1, .ref (Z.1 r1)), (2, .int v2), (3, .int u3), (4, .int u4)] []) (hk134 : ∀ (u3 : Int32) (u5 : Int32) (M : Mem), k134 u3 u5 M = some (r, M') → V X G Z M 0 0 (QN X G (QcI G Z r M') 0 0) 134 [(0, .ref (Z.1 27)), (1, .ref (Z.1 r1)), (2, .int v2), (3, .int u3), (4, .int v4), (5, .int u5)] []) (s0 : Int32) (M : Mem) (hf : f_X6_wholeOf_b274 r1 v2 v4 v5 k10 k134 s0 M = some (r, M')) : V X G Z M 0 0 (QN X G (QcI G Z r M') 0 0) 274 [(0, .ref (Z.1 27)), (1, .ref (Z.1 r1)), (2, .int v2), (4, .int v4), (5, .int v5)] [.int s0] := by
  unfold f_X6_wholeOf_b274 at hf
  refine r_iconst (v := 0) hC dX6_wholeOf_274 rfl ?_
  refine r_iadd hC dX6_wholeOf_275 ?_
  refine r_istore_n (L' := [(3, .int (s0 + 0)), (0, .ref (Z.1 27)), (1, .ref (Z.1 r1)), (2, .int v2), (4, .int v4), (5, .int v5)]) hC dX6_wholeOf_276 (by decide) rfl ?_
  refine r_iinc (v := v5 + 1) (L' := [(5, .int (v5 + 1)), (3, .int (s0 + 0)), (0, .ref (Z.1 27)), (1, .ref (Z.1 r1)), (2, .int v2), (4, .int v4)]) hC dX6_wholeOf_277 5 rfl rfl (by decide) rfl ?_
  refine r_goto 134 hC dX6_wholeOf_280 (by decide) ?_
  refine r_L [2, 3, 4, 1, 5, 0] rfl ?_
  exact hk134 _ _ _ hf
set_option maxRecDepth 20000 in
theorem w_X6_wholeOf_b227 {X : XX} {G : GG} {Z : ZZ} {r : Int32} {M' : Mem} (hC : Cx X G RX6 cX6_wholeOf (some .int) 8 0 0 8) (hz : ZOk G Z) (hZ : ZM Z) (r1 : Nat) (v2 : Int32) (v4 : Int32) (v5 : Int32) (v6 : Int32) (v7 : Int32) (hr1 : ArI r1) (k10 : Int32 → Int32 → Mem → Option (Int32 × Mem)) (k134 : Int32 → Int32 → Mem → Option (Int32 × Mem)) (hk10 : ∀ (u3 : Int32) (u4 : Int32) (M : Mem), k10 u3 u4 M = some (r, M') → V X G Z M 0 0 (QN X G (QcI G Z r M') 0 0) 10 [(0, .ref (Z.1 27)), (1, .ref (Z.1 r1)), (2, .int v2), (3, .int u3), (4, .int u4)] []) (hk134 : ∀ (u3 : Int32) (u5 : Int32) (M : Mem), k134 u3 u5 M = some (r, M') → V X G Z M 0 0 (QN X G (QcI G Z r M') 0 0) 134 [(0, .ref (Z.1 27)), (1, .ref (Z.1 r1)), (2, .int v2), (3, .int u3), (4, .int v4), (5, .int u5)] []) (s0 : Int32) (M : Mem) (hf : f_X6_wholeOf_b227 r1 v2 v4 v5 v6 v7 k10 k134 s0 M = some (r, M')) : V X G Z M 0 0 (QN X G (QcI G Z r M') 0 0) 227 [(0, .ref (Z.1 27)), (1, .ref (Z.1 r1)), (2, .int v2), (4, .int v4), (5, .int v5), (6, .int v6), (7, .int v7)] [.int s0] := by
  unfold f_X6_wholeOf_b227 at hf
  refine r_iload_n hC dX6_wholeOf_227 2 rfl ?_
  refine r_bipush (v := 7) hC dX6_wholeOf_228 rfl ?_
  refine r_icmp_ne 274 hC dX6_wholeOf_230 (by decide) (fun h => ?_) (fun h => ?_)
  · have hf := if_F hf h
    refine r_L [0, 1, 2, 3, 4] rfl ?_
    exact w_X6_wholeOf_b274 hC hz hZ r1 v2 v4 v5 hr1 k10 k134 hk10 hk134 s0 _ hf
  · have hf := if_T hf h
    refine r_iload hC dX6_wholeOf_233 5 rfl ?_
    refine r_if_eq 274 hC dX6_wholeOf_235 (by decide) (fun h => ?_) (fun h => ?_)
    · have hf := if_T hf h
      refine r_L [0, 1, 2, 3, 4] rfl ?_
      exact w_X6_wholeOf_b274 hC hz hZ r1 v2 v4 v5 hr1 k10 k134 hk10 hk134 s0 _ hf
    · have hf := if_F hf h
      refine r_aload_n hC dX6_wholeOf_238 0 rfl ?_
      refine gf_X6_38 hC (z_1 hZ 27 (by decide) rfl) rfl dX6_wholeOf_239 ?_
      refine r_iload hC dX6_wholeOf_242 4 rfl ?_
      refine r_iload hC dX6_wholeOf_244 3 rfl ?_
      refine r_callSI [.ref (Z.1 37), .int s0] (fun r M1 h => c_X6_at (cx_st hC) hz hZ v5 v4 _  r M1 h) hf cs_X6_70 hC  rfl rfl (by decide) (by decide) (Nat.le_of_ble_eq_true rfl) (by decide) (by decide) dX6_wholeOf_246 (fun x19 M20 hf => ?_)
      have hin := if_K hf
      have hf := if_V hf
      refine r_iald hC (z_1 hZ 37 (by decide) rfl) (inb_vp hin) dX6_wholeOf_249 ?_
      refine r_if_ne 274 hC dX6_wholeOf_250 (by decide) (fun h => ?_) (fun h => ?_)
      · have hf := if_F hf h
        refine r_L [0, 1, 2, 3, 4] rfl ?_
        exact w_X6_wholeOf_b274 hC hz hZ r1 v2 v4 v5 hr1 k10 k134 hk10 hk134 s0 _ hf
      · have hf := if_T hf h
        refine r_iload hC dX6_wholeOf_253 6 rfl ?_
        refine r_if_ne 270 hC dX6_wholeOf_255 (by decide) (fun h => ?_) (fun h => ?_)
        · have hf := if_F hf h
          refine r_L [0, 1, 2, 3, 4] rfl ?_
          exact w_X6_wholeOf_b270 hC hz hZ r1 v2 v4 v5 hr1 k10 k134 hk10 hk134 s0 _ hf
        · have hf := if_T hf h
          refine r_aload_n hC dX6_wholeOf_258 0 rfl ?_
          refine r_aload_n hC dX6_wholeOf_259 1 rfl ?_
          refine r_iload hC dX6_wholeOf_260 4 rfl ?_
          refine r_iload hC dX6_wholeOf_262 3 rfl ?_
          refine r_callVI [.int s0] (fun r M1 h => c_X6_isHeld (cx_st hC) hz hZ r1 v5 v4 _ hr1 r M1 h) hf cs_X6_74 hC (z_1 hZ 27 (by decide) rfl) (q0 := (RX6, TX6, 19)) rfl rfl [.ref (Z.1 r1), .int v5, .int v4] rfl rfl rfl (by decide) (by decide) (Nat.le_of_ble_eq_true rfl) (by decide) (by decide) dX6_wholeOf_264 (fun x21 M22 hf => ?_)
          refine r_if_ne 274 hC dX6_wholeOf_267 (by decide) (fun h => ?_) (fun h => ?_)
          · have hf := if_F hf h
            refine r_L [0, 1, 2, 3, 4] rfl ?_
            exact w_X6_wholeOf_b274 hC hz hZ r1 v2 v4 v5 hr1 k10 k134 hk10 hk134 s0 _ hf
          · have hf := if_T hf h
            refine r_L [0, 1, 2, 3, 4] rfl ?_
            exact w_X6_wholeOf_b270 hC hz hZ r1 v2 v4 v5 hr1 k10 k134 hk10 hk134 s0 _ hf
set_option maxRecDepth 20000 in
theorem w_X6_wholeOf_b214 {X : XX} {G : GG} {Z : ZZ} {r : Int32} {M' : Mem} (hC : Cx X G RX6 cX6_wholeOf (some .int) 8 0 0 8) (hz : ZOk G Z) (hZ : ZM Z) (r1 : Nat) (v2 : Int32) (v4 : Int32) (v5 : Int32) (v6 : Int32) (v7 : Int32) (hr1 : ArI r1) (k10 : Int32 → Int32 → Mem → Option (Int32 × Mem)) (k134 : Int32 → Int32 → Mem → Option (Int32 × Mem)) (hk10 : ∀ (u3 : Int32) (u4 : Int32) (M : Mem), k10 u3 u4 M = some (r, M') → V X G Z M 0 0 (QN X G (QcI G Z r M') 0 0) 10 [(0, .ref (Z.1 27)), (1, .ref (Z.1 r1)), (2, .int v2), (3, .int u3), (4, .int u4)] []) (hk134 : ∀ (u3 : Int32) (u5 : Int32) (M : Mem), k134 u3 u5 M = some (r, M') → V X G Z M 0 0 (QN X G (QcI G Z r M') 0 0) 134 [(0, .ref (Z.1 27)), (1, .ref (Z.1 r1)), (2, .int v2), (3, .int u3), (4, .int v4), (5, .int u5)] []) (s0 : Int32) (s1 : Int32) (M : Mem) (hf : f_X6_wholeOf_b214 r1 v2 v4 v5 v6 v7 k10 k134 s0 s1 M = some (r, M')) : V X G Z M 0 0 (QN X G (QcI G Z r M') 0 0) 214 [(0, .ref (Z.1 27)), (1, .ref (Z.1 r1)), (2, .int v2), (4, .int v4), (5, .int v5), (6, .int v6), (7, .int v7)] [.int s0, .int s1] := by
  unfold f_X6_wholeOf_b214 at hf
  refine r_iadd hC dX6_wholeOf_214 ?_
  refine r_istore_n (L' := [(3, .int (s1 + s0)), (0, .ref (Z.1 27)), (1, .ref (Z.1 r1)), (2, .int v2), (4, .int v4), (5, .int v5), (6, .int v6), (7, .int v7)]) hC dX6_wholeOf_215 (by decide) rfl ?_
  refine r_iload_n hC dX6_wholeOf_216 0 rfl ?_
  refine r_iload_n hC dX6_wholeOf_217 3 rfl ?_
  refine r_iconst (v := 4) hC dX6_wholeOf_218 rfl ?_
  refine r_icmp_ne 227 hC dX6_wholeOf_219 (by decide) (fun h => ?_) (fun h => ?_)
  · have hf := if_F hf h
    refine r_L [1, 2, 3, 4, 5, 6, 7] rfl ?_
    exact w_X6_wholeOf_b227 hC hz hZ r1 v2 v4 v5 v6 v7 hr1 k10 k134 hk10 hk134 (s1 + s0) _ hf
  · have hf := if_T hf h
    refine r_iload hC dX6_wholeOf_222 7 rfl ?_
    refine r_if_ne 270 hC dX6_wholeOf_224 (by decide) (fun h => ?_) (fun h => ?_)
    · have hf := if_F hf h
      refine r_L [1, 2, 3, 4, 5] rfl ?_
      exact w_X6_wholeOf_b270 hC hz hZ r1 v2 v4 v5 hr1 k10 k134 hk10 hk134 (s1 + s0) _ hf
    · have hf := if_T hf h
      refine r_L [1, 2, 3, 4, 5, 6, 7] rfl ?_
      exact w_X6_wholeOf_b227 hC hz hZ r1 v2 v4 v5 v6 v7 hr1 k10 k134 hk10 hk134 (s1 + s0) _ hf
set_option maxRecDepth 20000 in
theorem w_X6_wholeOf_b213 {X : XX} {G : GG} {Z : ZZ} {r : Int32} {M' : Mem} (hC : Cx X G RX6 cX6_wholeOf (some .int) 8 0 0 8) (hz : ZOk G Z) (hZ : ZM Z) (r1 : Nat) (v2 : Int32) (v4 : Int32) (v5 : Int32) (v6 : Int32) (v7 : Int32) (hr1 : ArI r1) (k10 : Int32 → Int32 → Mem → Option (Int32 × Mem)) (k134 : Int32 → Int32 → Mem → Option (Int32 × Mem)) (hk10 : ∀ (u3 : Int32) (u4 : Int32) (M : Mem), k10 u3 u4 M = some (r, M') → V X G Z M 0 0 (QN X G (QcI G Z r M') 0 0) 10 [(0, .ref (Z.1 27)), (1, .ref (Z.1 r1)), (2, .int v2), (3, .int u3), (4, .int u4)] []) (hk134 : ∀ (u3 : Int32) (u5 : Int32) (M : Mem), k134 u3 u5 M = some (r, M') → V X G Z M 0 0 (QN X G (QcI G Z r M') 0 0) 134 [(0, .ref (Z.1 27)), (1, .ref (Z.1 r1)), (2, .int v2), (3, .int u3), (4, .int v4), (5, .int u5)] []) (s0 : Int32) (M : Mem) (hf : f_X6_wholeOf_b213 r1 v2 v4 v5 v6 v7 k10 k134 s0 M = some (r, M')) : V X G Z M 0 0 (QN X G (QcI G Z r M') 0 0) 213 [(0, .ref (Z.1 27)), (1, .ref (Z.1 r1)), (2, .int v2), (4, .int v4), (5, .int v5), (6, .int v6), (7, .int v7)] [.int s0] := by
  unfold f_X6_wholeOf_b213 at hf
  refine r_iconst (v := 0) hC dX6_wholeOf_213 rfl ?_
  exact w_X6_wholeOf_b214 hC hz hZ r1 v2 v4 v5 v6 v7 hr1 k10 k134 hk10 hk134 0 s0 _ hf
set_option maxRecDepth 20000 in
theorem w_X6_wholeOf_b165 {X : XX} {G : GG} {Z : ZZ} {r : Int32} {M' : Mem} (hC : Cx X G RX6 cX6_wholeOf (some .int) 8 0 0 8) (hz : ZOk G Z) (hZ : ZM Z) (r1 : Nat) (v2 : Int32) (v3 : Int32) (v4 : Int32) (v5 : Int32) (hr1 : ArI r1) (k10 : Int32 → Int32 → Mem → Option (Int32 × Mem)) (k134 : Int32 → Int32 → Mem → Option (Int32 × Mem)) (hk10 : ∀ (u3 : Int32) (u4 : Int32) (M : Mem), k10 u3 u4 M = some (r, M') → V X G Z M 0 0 (QN X G (QcI G Z r M') 0 0) 10 [(0, .ref (Z.1 27)), (1, .ref (Z.1 r1)), (2, .int v2), (3, .int u3), (4, .int u4)] []) (hk134 : ∀ (u3 : Int32) (u5 : Int32) (M : Mem), k134 u3 u5 M = some (r, M') → V X G Z M 0 0 (QN X G (QcI G Z r M') 0 0) 134 [(0, .ref (Z.1 27)), (1, .ref (Z.1 r1)), (2, .int v2), (3, .int u3), (4, .int v4), (5, .int u5)] []) (s0 : Int32) (M : Mem) (hf : f_X6_wholeOf_b165 r1 v2 v3 v4 v5 k10 k134 s0 M = some (r, M')) : V X G Z M 0 0 (QN X G (QcI G Z r M') 0 0) 165 [(0, .ref (Z.1 27)), (1, .ref (Z.1 r1)), (2, .int v2), (3, .int v3), (4, .int v4), (5, .int v5)] [.int s0] := by
  unfold f_X6_wholeOf_b165 at hf
  refine r_istore (L' := [(6, .int s0), (0, .ref (Z.1 27)), (1, .ref (Z.1 r1)), (2, .int v2), (3, .int v3), (4, .int v4), (5, .int v5)]) hC dX6_wholeOf_165 (by decide) rfl ?_
  refine r_aload_n hC dX6_wholeOf_167 1 rfl ?_
  refine r_aload_n hC dX6_wholeOf_168 2 rfl ?_
  refine r_iload hC dX6_wholeOf_169 6 rfl ?_
  refine r_iload hC dX6_wholeOf_171 5 rfl ?_
  refine r_callVI [] (fun r M1 h => c_X6_isCutHere (cx_st hC) hz hZ r1 v5 v4 _ hr1 r M1 h) hf cs_X6_161 hC (z_1 hZ 27 (by decide) rfl) (q0 := (RX6, TX6, 19)) rfl rfl [.ref (Z.1 r1), .int v5, .int v4] rfl rfl rfl (by decide) (by decide) (Nat.le_of_ble_eq_true rfl) (by decide) (by decide) dX6_wholeOf_173 (fun x15 M16 hf => ?_)
  refine r_istore (L' := [(7, .int x15), (6, .int s0), (0, .ref (Z.1 27)), (1, .ref (Z.1 r1)), (2, .int v2), (3, .int v3), (4, .int v4), (5, .int v5)]) hC dX6_wholeOf_176 (by decide) rfl ?_
  refine r_iload_n hC dX6_wholeOf_178 5 rfl ?_
  refine r_iload_n hC dX6_wholeOf_179 4 rfl ?_
  refine r_if_le 213 hC dX6_wholeOf_180 (by decide) (fun h => ?_) (fun h => ?_)
  · have hf := if_T hf h
    refine r_L [2, 3, 4, 6, 7, 1, 0] rfl ?_
    exact w_X6_wholeOf_b213 hC hz hZ r1 v2 v4 v5 s0 x15 hr1 k10 k134 hk10 hk134 v3 _ hf
  · have hf := if_F hf h
    refine r_iload_n hC dX6_wholeOf_183 4 rfl ?_
    refine r_iconst (v := 4) hC dX6_wholeOf_184 rfl ?_
    refine r_icmp_ge 213 hC dX6_wholeOf_185 (by decide) (fun h => ?_) (fun h => ?_)
    · have hf := if_T hf h
      refine r_L [2, 3, 4, 6, 7, 1, 0] rfl ?_
      exact w_X6_wholeOf_b213 hC hz hZ r1 v2 v4 v5 s0 x15 hr1 k10 k134 hk10 hk134 v3 _ hf
    · have hf := if_F hf h
      refine r_iload hC dX6_wholeOf_188 1 rfl ?_
      refine r_if_eq 213 hC dX6_wholeOf_190 (by decide) (fun h => ?_) (fun h => ?_)
      · have hf := if_T hf h
        refine r_L [2, 3, 4, 6, 7, 1, 0] rfl ?_
        exact w_X6_wholeOf_b213 hC hz hZ r1 v2 v4 v5 s0 x15 hr1 k10 k134 hk10 hk134 v3 _ hf
      · have hf := if_F hf h
        refine r_aload_n hC dX6_wholeOf_193 2 rfl ?_
        refine gf_X6_38 hC (z_1 hZ 27 (by decide) rfl) rfl dX6_wholeOf_194 ?_
        refine r_iload hC dX6_wholeOf_197 7 rfl ?_
        refine r_iload hC dX6_wholeOf_199 6 rfl ?_
        refine r_callSI [.ref (Z.1 37), .int v3] (fun r M1 h => c_X6_at (cx_st hC) hz hZ v5 v4 _  r M1 h) hf cs_X6_70 hC  rfl rfl (by decide) (by decide) (Nat.le_of_ble_eq_true rfl) (by decide) (by decide) dX6_wholeOf_201 (fun x17 M18 hf => ?_)
        have hin := if_K hf
        have hf := if_V hf
        refine r_iald hC (z_1 hZ 37 (by decide) rfl) (inb_vp hin) dX6_wholeOf_204 ?_
        refine r_iload_n hC dX6_wholeOf_205 4 rfl ?_
        refine r_icmp_ne 213 hC dX6_wholeOf_206 (by decide) (fun h => ?_) (fun h => ?_)
        · have hf := if_F hf h
          refine r_L [2, 3, 4, 6, 7, 1, 0] rfl ?_
          exact w_X6_wholeOf_b213 hC hz hZ r1 v2 v4 v5 s0 x15 hr1 k10 k134 hk10 hk134 v3 _ hf
        · have hf := if_T hf h
          refine r_iconst (v := 1) hC dX6_wholeOf_209 rfl ?_
          refine r_goto 214 hC dX6_wholeOf_210 (by decide) ?_
          refine r_L [2, 3, 4, 6, 7, 1, 0] rfl ?_
          exact w_X6_wholeOf_b214 hC hz hZ r1 v2 v4 v5 s0 x15 hr1 k10 k134 hk10 hk134 1 v3 _ hf
set_option maxRecDepth 20000 in
theorem w_X6_wholeOf_b134 {X : XX} {G : GG} {Z : ZZ} {r : Int32} {M' : Mem} (hC : Cx X G RX6 cX6_wholeOf (some .int) 8 0 0 8) (hz : ZOk G Z) (hZ : ZM Z) (r1 : Nat) (v2 : Int32) (v4 : Int32) (hr1 : ArI r1) (k10 : Int32 → Int32 → Mem → Option (Int32 × Mem)) (hk10 : ∀ (u3 : Int32) (u4 : Int32) (M : Mem), k10 u3 u4 M = some (r, M') → V X G Z M 0 0 (QN X G (QcI G Z r M') 0 0) 10 [(0, .ref (Z.1 27)), (1, .ref (Z.1 r1)), (2, .int v2), (3, .int u3), (4, .int u4)] []) (k134 : Int32 → Int32 → Mem → Option (Int32 × Mem)) (hk134 : ∀ (u3 : Int32) (u5 : Int32) (M : Mem), k134 u3 u5 M = some (r, M') → V X G Z M 0 0 (QN X G (QcI G Z r M') 0 0) 134 [(0, .ref (Z.1 27)), (1, .ref (Z.1 r1)), (2, .int v2), (3, .int u3), (4, .int v4), (5, .int u5)] []) (v3 : Int32) (v5 : Int32) (M : Mem) (hf : f_X6_wholeOf_b134 r1 v2 v4 k10 k134 v3 v5 M = some (r, M')) : V X G Z M 0 0 (QN X G (QcI G Z r M') 0 0) 134 [(0, .ref (Z.1 27)), (1, .ref (Z.1 r1)), (2, .int v2), (3, .int v3), (4, .int v4), (5, .int v5)] [] := by
  unfold f_X6_wholeOf_b134 at hf
  refine r_iload hC dX6_wholeOf_134 5 rfl ?_
  refine r_aload_n hC dX6_wholeOf_136 1 rfl ?_
  refine r_bipush (v := 6) hC dX6_wholeOf_137 rfl ?_
  have hin := if_K hf
  have hf := if_V hf
  refine r_iald hC (z_r hZ hr1) (inb_vp hin) dX6_wholeOf_139 ?_
  refine r_icmp_ge 283 hC dX6_wholeOf_140 (by decide) (fun h => ?_) (fun h => ?_)
  · have hf := if_T hf h
    refine r_iinc (v := v4 + 1) (L' := [(4, .int (v4 + 1)), (0, .ref (Z.1 27)), (1, .ref (Z.1 r1)), (2, .int v2), (3, .int v3), (5, .int v5)]) hC dX6_wholeOf_283 4 rfl rfl (by decide) rfl ?_
    refine r_goto 10 hC dX6_wholeOf_286 (by decide) ?_
    refine r_L [1, 2, 3, 4, 0] rfl ?_
    exact hk10 _ _ _ hf
  · have hf := if_F hf h
    refine r_aload_n hC dX6_wholeOf_143 0 rfl ?_
    refine gf_X6_35 hC (z_1 hZ 27 (by decide) rfl) rfl dX6_wholeOf_144 ?_
    refine r_iload hC dX6_wholeOf_147 5 rfl ?_
    refine r_iload hC dX6_wholeOf_149 4 rfl ?_
    refine r_callSI [.ref (Z.1 36)] (fun r M1 h => c_X6_at (cx_st hC) hz hZ v5 v4 _  r M1 h) hf cs_X6_70 hC  rfl rfl (by decide) (by decide) (Nat.le_of_ble_eq_true rfl) (by decide) (by decide) dX6_wholeOf_151 (fun x13 M14 hf => ?_)
    have hin := if_K hf
    have hf := if_V hf
    refine r_iald hC (z_1 hZ 36 (by decide) rfl) (inb_vp hin) dX6_wholeOf_154 ?_
    refine r_bipush (v := (-9)) hC dX6_wholeOf_155 rfl ?_
    refine r_icmp_eq 164 hC dX6_wholeOf_157 (by decide) (fun h => ?_) (fun h => ?_)
    · have hf := if_T hf h
      refine r_iconst (v := 0) hC dX6_wholeOf_164 rfl ?_
      exact w_X6_wholeOf_b165 hC hz hZ r1 v2 v3 v4 v5 hr1 k10 k134 hk10 hk134 0 _ hf
    · have hf := if_F hf h
      refine r_iconst (v := 1) hC dX6_wholeOf_160 rfl ?_
      refine r_goto 165 hC dX6_wholeOf_161 (by decide) ?_
      exact w_X6_wholeOf_b165 hC hz hZ r1 v2 v3 v4 v5 hr1 k10 k134 hk10 hk134 1 _ hf
set_option maxRecDepth 20000 in
theorem w_X6_wholeOf_b129 {X : XX} {G : GG} {Z : ZZ} {r : Int32} {M' : Mem} (hC : Cx X G RX6 cX6_wholeOf (some .int) 8 0 0 8) (hz : ZOk G Z) (hZ : ZM Z) (r1 : Nat) (v2 : Int32) (v4 : Int32) (hr1 : ArI r1) (k10 : Int32 → Int32 → Mem → Option (Int32 × Mem)) (hk10 : ∀ (u3 : Int32) (u4 : Int32) (M : Mem), k10 u3 u4 M = some (r, M') → V X G Z M 0 0 (QN X G (QcI G Z r M') 0 0) 10 [(0, .ref (Z.1 27)), (1, .ref (Z.1 r1)), (2, .int v2), (3, .int u3), (4, .int u4)] []) (s0 : Int32) (s1 : Int32) (M : Mem) (hf : f_X6_wholeOf_b129 r1 v2 v4 k10 s0 s1 M = some (r, M')) : V X G Z M 0 0 (QN X G (QcI G Z r M') 0 0) 129 [(0, .ref (Z.1 27)), (1, .ref (Z.1 r1)), (2, .int v2), (4, .int v4)] [.int s0, .int s1] := by
  unfold f_X6_wholeOf_b129 at hf
  refine r_iadd hC dX6_wholeOf_129 ?_
  refine r_istore_n (L' := [(3, .int (s1 + s0)), (0, .ref (Z.1 27)), (1, .ref (Z.1 r1)), (2, .int v2), (4, .int v4)]) hC dX6_wholeOf_130 (by decide) rfl ?_
  refine r_iconst (v := 0) hC dX6_wholeOf_131 rfl ?_
  refine r_istore (L' := [(5, .int 0), (3, .int (s1 + s0)), (0, .ref (Z.1 27)), (1, .ref (Z.1 r1)), (2, .int v2), (4, .int v4)]) hC dX6_wholeOf_132 (by decide) rfl ?_
  refine r_L [2, 3, 4, 1, 5, 0] rfl ?_
  exact lq2_ind (P := fun (u3 : Int32) (u5 : Int32) (M : Mem) => V X G Z M 0 0 (QN X G (QcI G Z r M') 0 0) 134 [(0, .ref (Z.1 27)), (1, .ref (Z.1 r1)), (2, .int v2), (3, .int u3), (4, .int v4), (5, .int u5)] []) (fun kk hkk u3 u5 M hf => w_X6_wholeOf_b134 hC hz hZ r1 v2 v4 hr1 k10 hk10 kk hkk u3 u5 M hf) _ _ _ _ hf
set_option maxRecDepth 20000 in
theorem w_X6_wholeOf_b100 {X : XX} {G : GG} {Z : ZZ} {r : Int32} {M' : Mem} (hC : Cx X G RX6 cX6_wholeOf (some .int) 8 0 0 8) (hz : ZOk G Z) (hZ : ZM Z) (r1 : Nat) (v2 : Int32) (v3 : Int32) (v4 : Int32) (hr1 : ArI r1) (k10 : Int32 → Int32 → Mem → Option (Int32 × Mem)) (hk10 : ∀ (u3 : Int32) (u4 : Int32) (M : Mem), k10 u3 u4 M = some (r, M') → V X G Z M 0 0 (QN X G (QcI G Z r M') 0 0) 10 [(0, .ref (Z.1 27)), (1, .ref (Z.1 r1)), (2, .int v2), (3, .int u3), (4, .int u4)] []) (M : Mem) (hf : f_X6_wholeOf_b100 r1 v2 v3 v4 k10 M = some (r, M')) : V X G Z M 0 0 (QN X G (QcI G Z r M') 0 0) 100 [(0, .ref (Z.1 27)), (1, .ref (Z.1 r1)), (2, .int v2), (3, .int v3), (4, .int v4)] [] := by
  unfold f_X6_wholeOf_b100 at hf
  refine r_iload_n hC dX6_wholeOf_100 3 rfl ?_
  refine r_iload_n hC dX6_wholeOf_101 2 rfl ?_
  refine r_if_ne 128 hC dX6_wholeOf_102 (by decide) (fun h => ?_) (fun h => ?_)
  · have hf := if_F hf h
    refine r_iconst (v := 0) hC dX6_wholeOf_128 rfl ?_
    refine r_L [0, 1, 2, 4] rfl ?_
    exact w_X6_wholeOf_b129 hC hz hZ r1 v2 v4 hr1 k10 hk10 0 v3 _ hf
  · have hf := if_T hf h
    refine r_aload_n hC dX6_wholeOf_105 0 rfl ?_
    refine r_aload_n hC dX6_wholeOf_106 1 rfl ?_
    refine r_iload hC dX6_wholeOf_107 4 rfl ?_
    refine r_aload_n hC dX6_wholeOf_109 0 rfl ?_
    refine r_iload hC dX6_wholeOf_110 4 rfl ?_
    refine r_callVI [.int v4, .ref (Z.1 r1), .ref (Z.1 27), .int v3] (fun r M1 h => c_X6_before (cx_st hC) hz hZ v4 _  r M1 h) hf cs_X6_154 hC (z_1 hZ 27 (by decide) rfl) (q0 := (RX6, TX6, 19)) rfl rfl [.int v4] rfl rfl rfl (by decide) (by decide) (Nat.le_of_ble_eq_true rfl) (by decide) (by decide) dX6_wholeOf_112 (fun x5 M6 hf => ?_)
    refine r_aload_n hC dX6_wholeOf_115 0 rfl ?_
    refine gf_X6_50 hC (z_1 hZ 27 (by decide) rfl) rfl dX6_wholeOf_116 ?_
    refine r_iload hC dX6_wholeOf_119 4 rfl ?_
    have hin := if_K hf
    have hf := if_V hf
    refine r_iald hC (z_1 hZ 41 (by decide) rfl) (inb_vp hin) dX6_wholeOf_121 ?_
    refine r_callVI [.int v3] (fun r M1 h => c_X6_costOf (cx_st hC) hz hZ r1 v4 x5 (M6 41 (Int32.toNatClampNeg v4)) _ hr1 r M1 h) hf cs_X6_127 hC (z_1 hZ 27 (by decide) rfl) (q0 := (RX6, TX6, 19)) rfl rfl [.ref (Z.1 r1), .int v4, .int x5, .int (M6 41 (Int32.toNatClampNeg v4))] rfl rfl rfl (by decide) (by decide) (Nat.le_of_ble_eq_true rfl) (by decide) (by decide) dX6_wholeOf_122 (fun x7 M8 hf => ?_)
    refine r_goto 129 hC dX6_wholeOf_125 (by decide) ?_
    refine r_L [0, 1, 2, 4] rfl ?_
    exact w_X6_wholeOf_b129 hC hz hZ r1 v2 v4 hr1 k10 hk10 x7 v3 _ hf
set_option maxRecDepth 20000 in
theorem w_X6_wholeOf_b22 {X : XX} {G : GG} {Z : ZZ} {r : Int32} {M' : Mem} (hC : Cx X G RX6 cX6_wholeOf (some .int) 8 0 0 8) (hz : ZOk G Z) (hZ : ZM Z) (r1 : Nat) (v2 : Int32) (v4 : Int32) (hr1 : ArI r1) (k10 : Int32 → Int32 → Mem → Option (Int32 × Mem)) (hk10 : ∀ (u3 : Int32) (u4 : Int32) (M : Mem), k10 u3 u4 M = some (r, M') → V X G Z M 0 0 (QN X G (QcI G Z r M') 0 0) 10 [(0, .ref (Z.1 27)), (1, .ref (Z.1 r1)), (2, .int v2), (3, .int u3), (4, .int u4)] []) (k22 : Int32 → Int32 → Mem → Option (Int32 × Mem)) (hk22 : ∀ (u3 : Int32) (u5 : Int32) (M : Mem), k22 u3 u5 M = some (r, M') → V X G Z M 0 0 (QN X G (QcI G Z r M') 0 0) 22 [(0, .ref (Z.1 27)), (1, .ref (Z.1 r1)), (2, .int v2), (3, .int u3), (4, .int v4), (5, .int u5)] []) (v3 : Int32) (v5 : Int32) (M : Mem) (hf : f_X6_wholeOf_b22 r1 v2 v4 k10 k22 v3 v5 M = some (r, M')) : V X G Z M 0 0 (QN X G (QcI G Z r M') 0 0) 22 [(0, .ref (Z.1 27)), (1, .ref (Z.1 r1)), (2, .int v2), (3, .int v3), (4, .int v4), (5, .int v5)] [] := by
  unfold f_X6_wholeOf_b22 at hf
  refine r_iload hC dX6_wholeOf_22 5 rfl ?_
  refine r_iconst (v := 2) hC dX6_wholeOf_24 rfl ?_
  refine r_icmp_ge 100 hC dX6_wholeOf_25 (by decide) (fun h => ?_) (fun h => ?_)
  · have hf := if_T hf h
    refine r_L [0, 1, 2, 3, 4] rfl ?_
    exact w_X6_wholeOf_b100 hC hz hZ r1 v2 v3 v4 hr1 k10 hk10 _ hf
  · have hf := if_F hf h
    refine r_iload_n hC dX6_wholeOf_28 3 rfl ?_
    refine r_iload_n hC dX6_wholeOf_29 2 rfl ?_
    refine r_iconst (v := 5) hC dX6_wholeOf_30 rfl ?_
    refine r_icmp_ne 57 hC dX6_wholeOf_31 (by decide) (fun h => ?_) (fun h => ?_)
    · have hf := if_F hf h
      refine r_L [0, 1, 2, 4, 5] rfl ?_
      exact w_X6_wholeOf_b57 hC hz hZ r1 v2 v4 v5 hr1 k10 k22 hk10 hk22 v3 _ hf
    · have hf := if_T hf h
      refine r_aload_n hC dX6_wholeOf_34 0 rfl ?_
      refine r_aload_n hC dX6_wholeOf_35 1 rfl ?_
      refine r_iload hC dX6_wholeOf_36 5 rfl ?_
      refine r_iload hC dX6_wholeOf_38 4 rfl ?_
      refine r_aload_n hC dX6_wholeOf_40 0 rfl ?_
      refine gf_X6_50 hC (z_1 hZ 27 (by decide) rfl) rfl dX6_wholeOf_41 ?_
      refine r_iload hC dX6_wholeOf_44 4 rfl ?_
      have hin := if_K hf
      have hf := if_V hf
      refine r_iald hC (z_1 hZ 41 (by decide) rfl) (inb_vp hin) dX6_wholeOf_46 ?_
      refine r_callVI [.int v3] (fun r M1 h => c_X6_isRolled (cx_st hC) hz hZ r1 v5 v4 (M 41 (Int32.toNatClampNeg v4)) _ hr1 r M1 h) hf cs_X6_116 hC (z_1 hZ 27 (by decide) rfl) (q0 := (RX6, TX6, 19)) rfl rfl [.ref (Z.1 r1), .int v5, .int v4, .int (M 41 (Int32.toNatClampNeg v4))] rfl rfl rfl (by decide) (by decide) (Nat.le_of_ble_eq_true rfl) (by decide) (by decide) dX6_wholeOf_47 (fun x3 M4 hf => ?_)
      refine r_if_eq 57 hC dX6_wholeOf_50 (by decide) (fun h => ?_) (fun h => ?_)
      · have hf := if_T hf h
        refine r_L [0, 1, 2, 4, 5] rfl ?_
        exact w_X6_wholeOf_b57 hC hz hZ r1 v2 v4 v5 hr1 k10 k22 hk10 hk22 v3 _ hf
      · have hf := if_F hf h
        refine r_iconst (v := 1) hC dX6_wholeOf_53 rfl ?_
        refine r_goto 58 hC dX6_wholeOf_54 (by decide) ?_
        refine r_L [0, 1, 2, 4, 5] rfl ?_
        exact w_X6_wholeOf_b58 hC hz hZ r1 v2 v4 v5 hr1 k10 k22 hk10 hk22 1 v3 _ hf
set_option maxRecDepth 20000 in
theorem w_X6_wholeOf_b10 {X : XX} {G : GG} {Z : ZZ} {r : Int32} {M' : Mem} (hC : Cx X G RX6 cX6_wholeOf (some .int) 8 0 0 8) (hz : ZOk G Z) (hZ : ZM Z) (r1 : Nat) (v2 : Int32) (hr1 : ArI r1) (k10 : Int32 → Int32 → Mem → Option (Int32 × Mem)) (hk10 : ∀ (u3 : Int32) (u4 : Int32) (M : Mem), k10 u3 u4 M = some (r, M') → V X G Z M 0 0 (QN X G (QcI G Z r M') 0 0) 10 [(0, .ref (Z.1 27)), (1, .ref (Z.1 r1)), (2, .int v2), (3, .int u3), (4, .int u4)] []) (v3 : Int32) (v4 : Int32) (M : Mem) (hf : f_X6_wholeOf_b10 r1 v2 k10 v3 v4 M = some (r, M')) : V X G Z M 0 0 (QN X G (QcI G Z r M') 0 0) 10 [(0, .ref (Z.1 27)), (1, .ref (Z.1 r1)), (2, .int v2), (3, .int v3), (4, .int v4)] [] := by
  unfold f_X6_wholeOf_b10 at hf
  refine r_iload hC dX6_wholeOf_10 4 rfl ?_
  refine r_aload_n hC dX6_wholeOf_12 1 rfl ?_
  refine r_bipush (v := 7) hC dX6_wholeOf_13 rfl ?_
  have hin := if_K hf
  have hf := if_V hf
  refine r_iald hC (z_r hZ hr1) (inb_vp hin) dX6_wholeOf_15 ?_
  refine r_icmp_ge 289 hC dX6_wholeOf_16 (by decide) (fun h => ?_) (fun h => ?_)
  · have hf := if_T hf h
    refine r_iload_n hC dX6_wholeOf_289 3 rfl ?_
    exact r_iret hf hC (by decide) (by decide) dX6_wholeOf_290
  · have hf := if_F hf h
    refine r_iconst (v := 0) hC dX6_wholeOf_19 rfl ?_
    refine r_istore (L' := [(5, .int 0), (0, .ref (Z.1 27)), (1, .ref (Z.1 r1)), (2, .int v2), (3, .int v3), (4, .int v4)]) hC dX6_wholeOf_20 (by decide) rfl ?_
    refine r_L [1, 2, 3, 4, 5, 0] rfl ?_
    exact lq2_ind (P := fun (u3 : Int32) (u5 : Int32) (M : Mem) => V X G Z M 0 0 (QN X G (QcI G Z r M') 0 0) 22 [(0, .ref (Z.1 27)), (1, .ref (Z.1 r1)), (2, .int v2), (3, .int u3), (4, .int v4), (5, .int u5)] []) (fun kk hkk u3 u5 M hf => w_X6_wholeOf_b22 hC hz hZ r1 v2 v4 hr1 k10 hk10 kk hkk u3 u5 M hf) _ _ _ _ hf
set_option maxRecDepth 20000 in
theorem w_X6_wholeOf {X : XX} {G : GG} {Z : ZZ} (hC : Cx X G RX6 cX6_wholeOf (some .int) 8 0 0 8) (hz : ZOk G Z) (hZ : ZM Z) (r1 : Nat) (v2 : Int32) (M : Mem) (hr1 : ArI r1) {r : Int32} {M' : Mem} (hf : f_X6_wholeOf r1 v2 M = some (r, M')) : V X G Z M 0 0 (QN X G (QcI G Z r M') 0 0) 0 [(0, .ref (Z.1 27)), (1, .ref (Z.1 r1)), (2, .int v2)] [] := by
  unfold f_X6_wholeOf at hf
  refine r_aload_n hC dX6_wholeOf_0 0 rfl ?_
  refine r_aload_n hC dX6_wholeOf_1 1 rfl ?_
  refine r_callVV [] (fun r M1 h => c_X6_lay (cx_st hC) hz hZ r1 _ hr1 r M1 h) hf cs_X6_158 hC (z_1 hZ 27 (by decide) rfl) (q0 := (RX6, TX6, 19)) rfl rfl [.ref (Z.1 r1)] rfl rfl rfl (by decide) (by decide) (Nat.le_of_ble_eq_true rfl) (by decide) (by decide) dX6_wholeOf_2 (fun x1 M2 hf => ?_)
  refine r_iconst (v := 0) hC dX6_wholeOf_5 rfl ?_
  refine r_istore_n (L' := [(3, .int 0), (0, .ref (Z.1 27)), (1, .ref (Z.1 r1)), (2, .int v2)]) hC dX6_wholeOf_6 (by decide) rfl ?_
  refine r_iconst (v := 0) hC dX6_wholeOf_7 rfl ?_
  refine r_istore (L' := [(4, .int 0), (3, .int 0), (0, .ref (Z.1 27)), (1, .ref (Z.1 r1)), (2, .int v2)]) hC dX6_wholeOf_8 (by decide) rfl ?_
  refine r_L [2, 3, 4, 1, 0] rfl ?_
  exact lq2_ind (P := fun (u3 : Int32) (u4 : Int32) (M : Mem) => V X G Z M 0 0 (QN X G (QcI G Z r M') 0 0) 10 [(0, .ref (Z.1 27)), (1, .ref (Z.1 r1)), (2, .int v2), (3, .int u3), (4, .int u4)] []) (fun kk hkk u3 u4 M hf => w_X6_wholeOf_b10 hC hz hZ r1 v2 hr1 kk hkk u3 u4 M hf) _ _ _ _ hf
set_option maxRecDepth 20000 in
theorem c_X6_wholeOf {l : Launch} (hl : l.stackTraces = false) {G : GG} {Z : ZZ} (hz : ZOk G Z) (hZ : ZM Z) (r1 : Nat) (v2 : Int32) (M : Mem) (hr1 : ArI r1) (r : Int32) (M' : Mem) (hf : f_X6_wholeOf r1 v2 M = some (r, M')) : CN (QcI G Z r M') l G Z yX6_wholeOf cX6_wholeOf 8 (some .int) 8 [.ref (Z.1 27), .ref (Z.1 r1), .int v2] M :=
  CN.of [(0, .ref (Z.1 27)), (1, .ref (Z.1 r1)), (2, .int v2)] hl (by decide +kernel) (Nat.le_of_ble_eq_true rfl) rfl (fun _ hC => w_X6_wholeOf hC hz hZ r1 v2 M hr1 hf)
set_option maxRecDepth 20000 in
theorem w_X6_mend_b53 {X : XX} {G : GG} {Z : ZZ} {r : Unit} {M' : Mem} (hC : Cx X G RX6 cX6_mend none 1 0 0 4) (hz : ZOk G Z) (hZ : ZM Z) (r0 : Nat) (v1 : Int32) (v2 : Int32) (hr0 : ArI r0) (k2 : Int32 → Mem → Option (Unit × Mem)) (k12 : Int32 → Mem → Option (Unit × Mem)) (hk2 : ∀ (u1 : Int32) (M : Mem), k2 u1 M = some (r, M') → V X G Z M 0 0 (QN X G (QcV G Z r M') 0 0) 2 [(0, .ref (Z.1 r0)), (1, .int u1)] []) (hk12 : ∀ (u2 : Int32) (M : Mem), k12 u2 M = some (r, M') → V X G Z M 0 0 (QN X G (QcV G Z r M') 0 0) 12 [(0, .ref (Z.1 r0)), (1, .int v1), (2, .int u2)] []) (s0 : Int32) (s1 : Nat) (hs1 : ArI s1) (M : Mem) (hf : f_X6_mend_b53 r0 v1 v2 k2 k12 s0 s1 M = some (r, M')) : V X G Z M 0 0 (QN X G (QcV G Z r M') 0 0) 53 [(0, .ref (Z.1 r0)), (1, .int v1), (2, .int v2)] [.int s0, .ref (Z.1 s1)] := by
  unfold f_X6_mend_b53 at hf
  refine r_bipush (v := (-9)) hC dX6_mend_53 rfl ?_
  refine r_goto 61 hC dX6_mend_55 (by decide) ?_
  have hin := if_K hf
  have hf := if_V hf
  refine r_iast hC hz (z_r hZ hs1) (inb_vp hin) dX6_mend_61 ?_
  refine r_iinc (v := v2 + 1) (L' := [(2, .int (v2 + 1)), (0, .ref (Z.1 r0)), (1, .int v1)]) hC dX6_mend_62 2 rfl rfl (by decide) rfl ?_
  refine r_goto 12 hC dX6_mend_65 (by decide) ?_
  refine r_L [1, 2, 0] rfl ?_
  exact hk12 _ _ hf
set_option maxRecDepth 20000 in
theorem w_X6_mend_b58 {X : XX} {G : GG} {Z : ZZ} {r : Unit} {M' : Mem} (hC : Cx X G RX6 cX6_mend none 1 0 0 4) (hz : ZOk G Z) (hZ : ZM Z) (r0 : Nat) (v1 : Int32) (v2 : Int32) (v3 : Int32) (hr0 : ArI r0) (k2 : Int32 → Mem → Option (Unit × Mem)) (k12 : Int32 → Mem → Option (Unit × Mem)) (hk2 : ∀ (u1 : Int32) (M : Mem), k2 u1 M = some (r, M') → V X G Z M 0 0 (QN X G (QcV G Z r M') 0 0) 2 [(0, .ref (Z.1 r0)), (1, .int u1)] []) (hk12 : ∀ (u2 : Int32) (M : Mem), k12 u2 M = some (r, M') → V X G Z M 0 0 (QN X G (QcV G Z r M') 0 0) 12 [(0, .ref (Z.1 r0)), (1, .int v1), (2, .int u2)] []) (s0 : Int32) (s1 : Nat) (hs1 : ArI s1) (M : Mem) (hf : f_X6_mend_b58 r0 v1 v2 v3 k2 k12 s0 s1 M = some (r, M')) : V X G Z M 0 0 (QN X G (QcV G Z r M') 0 0) 58 [(0, .ref (Z.1 r0)), (1, .int v1), (2, .int v2), (3, .int v3)] [.int s0, .ref (Z.1 s1)] := by
  unfold f_X6_mend_b58 at hf
  refine r_aload_n hC dX6_mend_58 0 rfl ?_
  refine r_iload_n hC dX6_mend_59 3 rfl ?_
  have hin := if_K hf
  have hf := if_V hf
  refine r_iald hC (z_r hZ hr0) (inb_vp hin) dX6_mend_60 ?_
  have hin := if_K hf
  have hf := if_V hf
  refine r_iast hC hz (z_r hZ hs1) (inb_vp hin) dX6_mend_61 ?_
  refine r_iinc (v := v2 + 1) (L' := [(2, .int (v2 + 1)), (0, .ref (Z.1 r0)), (1, .int v1), (3, .int v3)]) hC dX6_mend_62 2 rfl rfl (by decide) rfl ?_
  refine r_goto 12 hC dX6_mend_65 (by decide) ?_
  refine r_L [1, 2, 0] rfl ?_
  exact hk12 _ _ hf
set_option maxRecDepth 20000 in
theorem w_X6_mend_b12 {X : XX} {G : GG} {Z : ZZ} {r : Unit} {M' : Mem} (hC : Cx X G RX6 cX6_mend none 1 0 0 4) (hz : ZOk G Z) (hZ : ZM Z) (r0 : Nat) (v1 : Int32) (hr0 : ArI r0) (k2 : Int32 → Mem → Option (Unit × Mem)) (hk2 : ∀ (u1 : Int32) (M : Mem), k2 u1 M = some (r, M') → V X G Z M 0 0 (QN X G (QcV G Z r M') 0 0) 2 [(0, .ref (Z.1 r0)), (1, .int u1)] []) (k12 : Int32 → Mem → Option (Unit × Mem)) (hk12 : ∀ (u2 : Int32) (M : Mem), k12 u2 M = some (r, M') → V X G Z M 0 0 (QN X G (QcV G Z r M') 0 0) 12 [(0, .ref (Z.1 r0)), (1, .int v1), (2, .int u2)] []) (v2 : Int32) (M : Mem) (hf : f_X6_mend_b12 r0 v1 k2 k12 v2 M = some (r, M')) : V X G Z M 0 0 (QN X G (QcV G Z r M') 0 0) 12 [(0, .ref (Z.1 r0)), (1, .int v1), (2, .int v2)] [] := by
  unfold f_X6_mend_b12 at hf
  refine r_iload_n hC dX6_mend_12 2 rfl ?_
  refine r_aload_n hC dX6_mend_13 0 rfl ?_
  refine r_bipush (v := 7) hC dX6_mend_14 rfl ?_
  have hin := if_K hf
  have hf := if_V hf
  refine r_iald hC (z_r hZ hr0) (inb_vp hin) dX6_mend_16 ?_
  refine r_icmp_ge 68 hC dX6_mend_17 (by decide) (fun h => ?_) (fun h => ?_)
  · have hf := if_T hf h
    refine r_iinc (v := v1 + 1) (L' := [(1, .int (v1 + 1)), (0, .ref (Z.1 r0)), (2, .int v2)]) hC dX6_mend_68 1 rfl rfl (by decide) rfl ?_
    refine r_goto 2 hC dX6_mend_71 (by decide) ?_
    refine r_L [1, 0] rfl ?_
    exact hk2 _ _ hf
  · have hf := if_F hf h
    refine r_bipush (v := 8) hC dX6_mend_20 rfl ?_
    refine r_iload_n hC dX6_mend_22 1 rfl ?_
    refine r_iload_n hC dX6_mend_23 2 rfl ?_
    refine r_callSI [.int 8] (fun r M1 h => c_X6_at (cx_st hC) hz hZ v1 v2 _  r M1 h) hf cs_X6_70 hC  rfl rfl (by decide) (by decide) (Nat.le_of_ble_eq_true rfl) (by decide) (by decide) dX6_mend_24 (fun x1 M2 hf => ?_)
    refine r_iadd hC dX6_mend_27 ?_
    refine r_istore_n (L' := [(3, .int (8 + x1)), (0, .ref (Z.1 r0)), (1, .int v1), (2, .int v2)]) hC dX6_mend_28 (by decide) rfl ?_
    refine r_aload_n hC dX6_mend_29 1 rfl ?_
    refine r_iload_n hC dX6_mend_30 0 rfl ?_
    refine r_aload_n hC dX6_mend_31 1 rfl ?_
    refine r_iload_n hC dX6_mend_32 0 rfl ?_
    have hin := if_K hf
    have hf := if_V hf
    refine r_iald hC (z_r hZ hr0) (inb_vp hin) dX6_mend_33 ?_
    refine r_bipush (v := 99) hC dX6_mend_34 rfl ?_
    refine r_icmp_ne 58 hC dX6_mend_36 (by decide) (fun h => ?_) (fun h => ?_)
    · have hf := if_F hf h
      refine r_L [1, 2, 3, 0] rfl ?_
      exact w_X6_mend_b58 hC hz hZ r0 v1 v2 (8 + x1) hr0 k2 k12 hk2 hk12 (8 + x1) r0 hr0 _ hf
    · have hf := if_T hf h
      refine r_iload_n hC dX6_mend_39 3 rfl ?_
      refine r_if_eq 53 hC dX6_mend_40 (by decide) (fun h => ?_) (fun h => ?_)
      · have hf := if_T hf h
        refine r_L [1, 2, 3] rfl ?_
        exact w_X6_mend_b53 hC hz hZ r0 v1 v2 hr0 k2 k12 hk2 hk12 (8 + x1) r0 hr0 _ hf
      · have hf := if_F hf h
        refine r_aload_n hC dX6_mend_43 1 rfl ?_
        refine r_iload_n hC dX6_mend_44 0 rfl ?_
        refine r_iconst (v := 1) hC dX6_mend_45 rfl ?_
        refine r_isub hC dX6_mend_46 ?_
        have hin := if_K hf
        have hf := if_V hf
        refine r_iald hC (z_r hZ hr0) (inb_vp hin) dX6_mend_47 ?_
        refine r_bipush (v := (-9)) hC dX6_mend_48 rfl ?_
        refine r_icmp_ne 58 hC dX6_mend_50 (by decide) (fun h => ?_) (fun h => ?_)
        · have hf := if_F hf h
          refine r_L [1, 2, 3, 0] rfl ?_
          exact w_X6_mend_b58 hC hz hZ r0 v1 v2 (8 + x1) hr0 k2 k12 hk2 hk12 (8 + x1) r0 hr0 _ hf
        · have hf := if_T hf h
          refine r_L [1, 2, 3] rfl ?_
          exact w_X6_mend_b53 hC hz hZ r0 v1 v2 hr0 k2 k12 hk2 hk12 (8 + x1) r0 hr0 _ hf
set_option maxRecDepth 20000 in
theorem w_X6_mend_b2 {X : XX} {G : GG} {Z : ZZ} {r : Unit} {M' : Mem} (hC : Cx X G RX6 cX6_mend none 1 0 0 4) (hz : ZOk G Z) (hZ : ZM Z) (r0 : Nat) (hr0 : ArI r0) (k2 : Int32 → Mem → Option (Unit × Mem)) (hk2 : ∀ (u1 : Int32) (M : Mem), k2 u1 M = some (r, M') → V X G Z M 0 0 (QN X G (QcV G Z r M') 0 0) 2 [(0, .ref (Z.1 r0)), (1, .int u1)] []) (v1 : Int32) (M : Mem) (hf : f_X6_mend_b2 r0 k2 v1 M = some (r, M')) : V X G Z M 0 0 (QN X G (QcV G Z r M') 0 0) 2 [(0, .ref (Z.1 r0)), (1, .int v1)] [] := by
  unfold f_X6_mend_b2 at hf
  refine r_iload_n hC dX6_mend_2 1 rfl ?_
  refine r_aload_n hC dX6_mend_3 0 rfl ?_
  refine r_bipush (v := 6) hC dX6_mend_4 rfl ?_
  have hin := if_K hf
  have hf := if_V hf
  refine r_iald hC (z_r hZ hr0) (inb_vp hin) dX6_mend_6 ?_
  refine r_icmp_ge 74 hC dX6_mend_7 (by decide) (fun h => ?_) (fun h => ?_)
  · have hf := if_T hf h
    exact r_vret hf hC (by decide) (by decide) dX6_mend_74
  · have hf := if_F hf h
    refine r_iconst (v := 0) hC dX6_mend_10 rfl ?_
    refine r_istore_n (L' := [(2, .int 0), (0, .ref (Z.1 r0)), (1, .int v1)]) hC dX6_mend_11 (by decide) rfl ?_
    refine r_L [1, 2, 0] rfl ?_
    exact lq1_ind (P := fun (u2 : Int32) (M : Mem) => V X G Z M 0 0 (QN X G (QcV G Z r M') 0 0) 12 [(0, .ref (Z.1 r0)), (1, .int v1), (2, .int u2)] []) (fun kk hkk u2 M hf => w_X6_mend_b12 hC hz hZ r0 v1 hr0 k2 hk2 kk hkk u2 M hf) _ _ _ hf
set_option maxRecDepth 20000 in
theorem w_X6_mend {X : XX} {G : GG} {Z : ZZ} (hC : Cx X G RX6 cX6_mend none 1 0 0 4) (hz : ZOk G Z) (hZ : ZM Z) (r0 : Nat) (M : Mem) (hr0 : ArI r0) {r : Unit} {M' : Mem} (hf : f_X6_mend r0 M = some (r, M')) : V X G Z M 0 0 (QN X G (QcV G Z r M') 0 0) 0 [(0, .ref (Z.1 r0))] [] := by
  unfold f_X6_mend at hf
  refine r_iconst (v := 0) hC dX6_mend_0 rfl ?_
  refine r_istore_n (L' := [(1, .int 0), (0, .ref (Z.1 r0))]) hC dX6_mend_1 (by decide) rfl ?_
  refine r_L [1, 0] rfl ?_
  exact lq1_ind (P := fun (u1 : Int32) (M : Mem) => V X G Z M 0 0 (QN X G (QcV G Z r M') 0 0) 2 [(0, .ref (Z.1 r0)), (1, .int u1)] []) (fun kk hkk u1 M hf => w_X6_mend_b2 hC hz hZ r0 hr0 kk hkk u1 M hf) _ _ _ hf
set_option maxRecDepth 20000 in
theorem c_X6_mend {l : Launch} (hl : l.stackTraces = false) {G : GG} {Z : ZZ} (hz : ZOk G Z) (hZ : ZM Z) (r0 : Nat) (M : Mem) (hr0 : ArI r0) (r : Unit) (M' : Mem) (hf : f_X6_mend r0 M = some (r, M')) : CN (QcV G Z r M') l G Z yX6_mend cX6_mend 4 none 1 [.ref (Z.1 r0)] M :=
  CN.of [(0, .ref (Z.1 r0))] hl (by decide +kernel) (Nat.le_of_ble_eq_true rfl) rfl (fun _ hC => w_X6_mend hC hz hZ r0 M hr0 hf)
set_option maxRecDepth 20000 in
theorem w_X6_append_b32 {X : XX} {G : GG} {Z : ZZ} {r : Int32} {M' : Mem} (hC : Cx X G RX6 cX6_append (some .int) 1 0 0 2) (hz : ZOk G Z) (hZ : ZM Z) (v1 : Int32) (s0 : Int32) (M : Mem) (hf : f_X6_append_b32 v1 s0 M = some (r, M')) : V X G Z M 0 0 (QN X G (QcI G Z r M') 0 0) 32 [(0, .ref (Z.1 27)), (1, .int v1)] [.int s0, .ref (Z.1 27)] := by
  unfold f_X6_append_b32 at hf
  refine r_callVI [] (fun r M1 h => c_X6_refused (cx_st hC) hz hZ s0 _  r M1 h) hf cs_X6_169 hC (z_1 hZ 27 (by decide) rfl) (q0 := (RX6, TX6, 19)) rfl rfl [.int s0] rfl rfl rfl (by decide) (by decide) (Nat.le_of_ble_eq_true rfl) (by decide) (by decide) dX6_append_32 (fun x3 M4 hf => ?_)
  refine r_if_eq 40 hC dX6_append_35 (by decide) (fun h => ?_) (fun h => ?_)
  · have hf := if_T hf h
    refine r_aload_n hC dX6_append_40 0 rfl ?_
    refine gf_X6_7 hC (z_1 hZ 27 (by decide) rfl) rfl dX6_append_41 ?_
    refine r_aload_n hC dX6_append_44 0 rfl ?_
    refine gf_X6_166 hC (z_1 hZ 27 (by decide) rfl) rfl dX6_append_45 ?_
    refine r_iload_n hC dX6_append_48 1 rfl ?_
    have hin := if_K hf
    have hf := if_V hf
    refine r_iast hC hz (z_1 hZ 28 (by decide) rfl) (inb_vp hin) dX6_append_49 ?_
    refine r_aload_n hC dX6_append_50 0 rfl ?_
    refine r_dup hC dX6_append_51 rfl ?_
    refine gf_X6_166 hC (z_1 hZ 27 (by decide) rfl) rfl dX6_append_52 ?_
    refine r_iconst (v := 1) hC dX6_append_55 rfl ?_
    refine r_iadd hC dX6_append_56 ?_
    refine pf_X6_166 hC hz (z_1 hZ 27 (by decide) rfl) rfl dX6_append_57 ?_
    refine r_aload_n hC dX6_append_60 0 rfl ?_
    refine gf_X6_166 hC (z_1 hZ 27 (by decide) rfl) rfl dX6_append_61 ?_
    exact r_iret hf hC (by decide) (by decide) dX6_append_64
  · have hf := if_F hf h
    refine r_iconst (v := 0) hC dX6_append_38 rfl ?_
    exact r_iret hf hC (by decide) (by decide) dX6_append_39
set_option maxRecDepth 20000 in
theorem w_X6_append {X : XX} {G : GG} {Z : ZZ} (hC : Cx X G RX6 cX6_append (some .int) 1 0 0 2) (hz : ZOk G Z) (hZ : ZM Z) (v1 : Int32) (M : Mem)  {r : Int32} {M' : Mem} (hf : f_X6_append v1 M = some (r, M')) : V X G Z M 0 0 (QN X G (QcI G Z r M') 0 0) 0 [(0, .ref (Z.1 27)), (1, .int v1)] [] := by
  unfold f_X6_append at hf
  refine r_aload_n hC dX6_append_0 0 rfl ?_
  refine r_iload_n hC dX6_append_1 1 rfl ?_
  refine r_i2l hC dX6_append_2 ?_
  refine r_lconst (v := 0) hC dX6_append_3 rfl ?_
  refine r_ldc2 (v := 255) hC dX6_append_4 kw_X6_164 ?_
  refine r_callSI [.ref (Z.1 27)] (fun r M1 h => c_X6_in (cx_st hC) hz hZ (Int32.toInt64 v1) 0 255 _  r M1 h) hf cs_X6_66 hC  rfl rfl (by decide) (by decide) (Nat.le_of_ble_eq_true rfl) (by decide) (by decide) dX6_append_7 (fun x1 M2 hf => ?_)
  refine r_if_ne 17 hC dX6_append_10 (by decide) (fun h => ?_) (fun h => ?_)
  · have hf := if_F hf h
    refine r_aload_n hC dX6_append_17 0 rfl ?_
    refine gf_X6_166 hC (z_1 hZ 27 (by decide) rfl) rfl dX6_append_18 ?_
    refine r_sipush (v := 140) hC dX6_append_21 rfl ?_
    refine r_icmp_ne 31 hC dX6_append_24 (by decide) (fun h => ?_) (fun h => ?_)
    · have hf := if_F hf h
      refine r_iconst (v := 0) hC dX6_append_31 rfl ?_
      exact w_X6_append_b32 hC hz hZ v1 0 _ hf
    · have hf := if_T hf h
      refine r_iconst (v := 2) hC dX6_append_27 rfl ?_
      refine r_goto 32 hC dX6_append_28 (by decide) ?_
      exact w_X6_append_b32 hC hz hZ v1 2 _ hf
  · have hf := if_T hf h
    refine r_iconst (v := 1) hC dX6_append_13 rfl ?_
    refine r_goto 32 hC dX6_append_14 (by decide) ?_
    exact w_X6_append_b32 hC hz hZ v1 1 _ hf
set_option maxRecDepth 20000 in
theorem c_X6_append {l : Launch} (hl : l.stackTraces = false) {G : GG} {Z : ZZ} (hz : ZOk G Z) (hZ : ZM Z) (v1 : Int32) (M : Mem)  (r : Int32) (M' : Mem) (hf : f_X6_append v1 M = some (r, M')) : CN (QcI G Z r M') l G Z yX6_append cX6_append 2 (some .int) 1 [.ref (Z.1 27), .int v1] M :=
  CN.of [(0, .ref (Z.1 27)), (1, .int v1)] hl (by decide +kernel) (Nat.le_of_ble_eq_true rfl) rfl (fun _ hC => w_X6_append hC hz hZ v1 M  hf)
set_option maxRecDepth 20000 in
theorem w_X6_clearText {X : XX} {G : GG} {Z : ZZ} (hC : Cx X G RX6 cX6_clearText (some .int) 0 0 0 2) (hz : ZOk G Z) (hZ : ZM Z)  (M : Mem)  {r : Int32} {M' : Mem} (hf : f_X6_clearText  M = some (r, M')) : V X G Z M 0 0 (QN X G (QcI G Z r M') 0 0) 0 [(0, .ref (Z.1 27))] [] := by
  unfold f_X6_clearText at hf
  refine r_aload_n hC dX6_clearText_0 0 rfl ?_
  refine r_iconst (v := 0) hC dX6_clearText_1 rfl ?_
  refine pf_X6_60 hC hz (z_1 hZ 27 (by decide) rfl) rfl dX6_clearText_2 ?_
  refine r_aload_n hC dX6_clearText_5 0 rfl ?_
  refine gf_X6_166 hC (z_1 hZ 27 (by decide) rfl) rfl dX6_clearText_6 ?_
  refine r_istore_n (L' := [(1, .int ((mw M 27 0 0) 27 2)), (0, .ref (Z.1 27))]) hC dX6_clearText_9 (by decide) rfl ?_
  refine r_aload_n hC dX6_clearText_10 1 rfl ?_
  refine r_iconst (v := 0) hC dX6_clearText_11 rfl ?_
  refine pf_X6_166 hC hz (z_1 hZ 27 (by decide) rfl) rfl dX6_clearText_12 ?_
  refine r_iload_n hC dX6_clearText_15 0 rfl ?_
  exact r_iret hf hC (by decide) (by decide) dX6_clearText_16
set_option maxRecDepth 20000 in
theorem c_X6_clearText {l : Launch} (hl : l.stackTraces = false) {G : GG} {Z : ZZ} (hz : ZOk G Z) (hZ : ZM Z)  (M : Mem)  (r : Int32) (M' : Mem) (hf : f_X6_clearText  M = some (r, M')) : CN (QcI G Z r M') l G Z yX6_clearText cX6_clearText 2 (some .int) 0 [.ref (Z.1 27)] M :=
  CN.of [(0, .ref (Z.1 27))] hl (by decide +kernel) (Nat.le_of_ble_eq_true rfl) rfl (fun _ hC => w_X6_clearText hC hz hZ  M  hf)
set_option maxRecDepth 20000 in
theorem w_X6_eat_b29 {X : XX} {G : GG} {Z : ZZ} {r : Int32} {M' : Mem} (hC : Cx X G RX6 cX6_eat (some .boolean) 0 0 0 3) (hz : ZOk G Z) (hZ : ZM Z) (s0 : Int32) (M : Mem) (hf : f_X6_eat_b29 s0 M = some (r, M')) : V X G Z M 0 0 (QN X G (QcI G Z r M') 0 0) 29 [(0, .ref (Z.1 27))] [.int s0] := by
  unfold f_X6_eat_b29 at hf
  refine r_istore_n (L' := [(2, .int s0), (0, .ref (Z.1 27))]) hC dX6_eat_29 (by decide) rfl ?_
  refine r_aload_n hC dX6_eat_30 1 rfl ?_
  refine r_dup hC dX6_eat_31 rfl ?_
  refine gf_X6_173 hC (z_1 hZ 27 (by decide) rfl) rfl dX6_eat_32 ?_
  refine r_iload_n hC dX6_eat_35 0 rfl ?_
  refine r_if_eq 43 hC dX6_eat_36 (by decide) (fun h => ?_) (fun h => ?_)
  · have hf := if_T hf h
    refine r_iconst (v := 0) hC dX6_eat_43 rfl ?_
    refine r_iadd hC dX6_eat_44 ?_
    refine pf_X6_173 hC hz (z_1 hZ 27 (by decide) rfl) rfl dX6_eat_45 ?_
    refine r_iload_n hC dX6_eat_48 0 rfl ?_
    have hne := if_K hf
    have hf := if_V hf
    exact r_zret hf hC rfl (nar_bool hne).1 (by decide) (by decide) dX6_eat_49
  · have hf := if_F hf h
    refine r_iconst (v := 1) hC dX6_eat_39 rfl ?_
    refine r_goto 44 hC dX6_eat_40 (by decide) ?_
    refine r_iadd hC dX6_eat_44 ?_
    refine pf_X6_173 hC hz (z_1 hZ 27 (by decide) rfl) rfl dX6_eat_45 ?_
    refine r_iload_n hC dX6_eat_48 0 rfl ?_
    have hne := if_K hf
    have hf := if_V hf
    exact r_zret hf hC rfl (nar_bool hne).1 (by decide) (by decide) dX6_eat_49
set_option maxRecDepth 20000 in
theorem w_X6_eat_b28 {X : XX} {G : GG} {Z : ZZ} {r : Int32} {M' : Mem} (hC : Cx X G RX6 cX6_eat (some .boolean) 0 0 0 3) (hz : ZOk G Z) (hZ : ZM Z)  (M : Mem) (hf : f_X6_eat_b28  M = some (r, M')) : V X G Z M 0 0 (QN X G (QcI G Z r M') 0 0) 28 [(0, .ref (Z.1 27))] [] := by
  unfold f_X6_eat_b28 at hf
  refine r_iconst (v := 0) hC dX6_eat_28 rfl ?_
  exact w_X6_eat_b29 hC hz hZ 0 _ hf
set_option maxRecDepth 20000 in
theorem w_X6_eat {X : XX} {G : GG} {Z : ZZ} (hC : Cx X G RX6 cX6_eat (some .boolean) 0 0 0 3) (hz : ZOk G Z) (hZ : ZM Z) (v1 : Int32) (M : Mem)  {r : Int32} {M' : Mem} (hf : f_X6_eat v1 M = some (r, M')) : V X G Z M 0 0 (QN X G (QcI G Z r M') 0 0) 0 [(0, .ref (Z.1 27)), (1, .int v1)] [] := by
  unfold f_X6_eat at hf
  refine r_aload_n hC dX6_eat_0 0 rfl ?_
  refine gf_X6_173 hC (z_1 hZ 27 (by decide) rfl) rfl dX6_eat_1 ?_
  refine r_aload_n hC dX6_eat_4 0 rfl ?_
  refine gf_X6_166 hC (z_1 hZ 27 (by decide) rfl) rfl dX6_eat_5 ?_
  refine r_icmp_ge 28 hC dX6_eat_8 (by decide) (fun h => ?_) (fun h => ?_)
  · have hf := if_T hf h
    refine r_L [0] rfl ?_
    exact w_X6_eat_b28 hC hz hZ  _ hf
  · have hf := if_F hf h
    refine r_aload_n hC dX6_eat_11 0 rfl ?_
    refine gf_X6_7 hC (z_1 hZ 27 (by decide) rfl) rfl dX6_eat_12 ?_
    refine r_aload_n hC dX6_eat_15 0 rfl ?_
    refine gf_X6_173 hC (z_1 hZ 27 (by decide) rfl) rfl dX6_eat_16 ?_
    have hin := if_K hf
    have hf := if_V hf
    refine r_iald hC (z_1 hZ 28 (by decide) rfl) (inb_vp hin) dX6_eat_19 ?_
    refine r_iload_n hC dX6_eat_20 1 rfl ?_
    refine r_icmp_ne 28 hC dX6_eat_21 (by decide) (fun h => ?_) (fun h => ?_)
    · have hf := if_F hf h
      refine r_L [0] rfl ?_
      exact w_X6_eat_b28 hC hz hZ  _ hf
    · have hf := if_T hf h
      refine r_iconst (v := 1) hC dX6_eat_24 rfl ?_
      refine r_goto 29 hC dX6_eat_25 (by decide) ?_
      refine r_L [0] rfl ?_
      exact w_X6_eat_b29 hC hz hZ 1 _ hf
set_option maxRecDepth 20000 in
theorem c_X6_eat {l : Launch} (hl : l.stackTraces = false) {G : GG} {Z : ZZ} (hz : ZOk G Z) (hZ : ZM Z) (v1 : Int32) (M : Mem)  (r : Int32) (M' : Mem) (hf : f_X6_eat v1 M = some (r, M')) : CN (QcI G Z r M') l G Z yX6_eat cX6_eat 3 (some .boolean) 0 [.ref (Z.1 27), .int v1] M :=
  CN.of [(0, .ref (Z.1 27)), (1, .int v1)] hl (by decide +kernel) (Nat.le_of_ble_eq_true rfl) rfl (fun _ hC => w_X6_eat hC hz hZ v1 M  hf)
set_option maxRecDepth 20000 in
theorem w_X6_digit_b55 {X : XX} {G : GG} {Z : ZZ} {r : Int32} {M' : Mem} (hC : Cx X G RX6 cX6_digit (some .int) 1 0 0 5) (hz : ZOk G Z) (hZ : ZM Z) (v3 : Int32) (v4 : Int32) (s0 : Int32) (s1 : Int32) (M : Mem) (hf : f_X6_digit_b55 v3 v4 s0 s1 M = some (r, M')) : V X G Z M 0 0 (QN X G (QcI G Z r M') 0 0) 55 [(3, .int v3), (4, .int v4)] [.int s0, .int s1, .ref (Z.1 27)] := by
  unfold f_X6_digit_b55 at hf
  refine r_iadd hC dX6_digit_55 ?_
  refine pf_X6_173 hC hz (z_1 hZ 27 (by decide) rfl) rfl dX6_digit_56 ?_
  refine r_iload hC dX6_digit_59 1 rfl ?_
  refine r_if_eq 68 hC dX6_digit_61 (by decide) (fun h => ?_) (fun h => ?_)
  · have hf := if_T hf h
    refine r_bipush (v := (-9)) hC dX6_digit_68 rfl ?_
    exact r_iret hf hC (by decide) (by decide) dX6_digit_70
  · have hf := if_F hf h
    refine r_iload_n hC dX6_digit_64 0 rfl ?_
    refine r_goto 70 hC dX6_digit_65 (by decide) ?_
    exact r_iret hf hC (by decide) (by decide) dX6_digit_70
set_option maxRecDepth 20000 in
theorem w_X6_digit_b28 {X : XX} {G : GG} {Z : ZZ} {r : Int32} {M' : Mem} (hC : Cx X G RX6 cX6_digit (some .int) 1 0 0 5) (hz : ZOk G Z) (hZ : ZM Z) (v1 : Int32) (v2 : Int32) (s0 : Int32) (M : Mem) (hf : f_X6_digit_b28 v1 v2 s0 M = some (r, M')) : V X G Z M 0 0 (QN X G (QcI G Z r M') 0 0) 28 [(0, .ref (Z.1 27)), (1, .int v1), (2, .int v2)] [.int s0] := by
  unfold f_X6_digit_b28 at hf
  refine r_istore_n (L' := [(3, .int s0), (0, .ref (Z.1 27)), (1, .int v1), (2, .int v2)]) hC dX6_digit_28 (by decide) rfl ?_
  refine r_iload_n hC dX6_digit_29 0 rfl ?_
  refine r_i2l hC dX6_digit_30 ?_
  refine r_iload_n hC dX6_digit_31 2 rfl ?_
  refine r_i2l hC dX6_digit_32 ?_
  refine r_iload_n hC dX6_digit_33 3 rfl ?_
  refine r_i2l hC dX6_digit_34 ?_
  refine r_callSI [] (fun r M1 h => c_X6_in (cx_st hC) hz hZ (Int32.toInt64 s0) (Int32.toInt64 v1) (Int32.toInt64 v2) _  r M1 h) hf cs_X6_66 hC  rfl rfl (by decide) (by decide) (Nat.le_of_ble_eq_true rfl) (by decide) (by decide) dX6_digit_35 (fun x1 M2 hf => ?_)
  refine r_istore (L' := [(4, .int x1), (3, .int s0), (0, .ref (Z.1 27)), (1, .int v1), (2, .int v2)]) hC dX6_digit_38 (by decide) rfl ?_
  refine r_aload_n hC dX6_digit_40 2 rfl ?_
  refine r_dup hC dX6_digit_41 rfl ?_
  refine gf_X6_173 hC (z_1 hZ 27 (by decide) rfl) rfl dX6_digit_42 ?_
  refine r_iload hC dX6_digit_45 0 rfl ?_
  refine r_if_eq 54 hC dX6_digit_47 (by decide) (fun h => ?_) (fun h => ?_)
  · have hf := if_T hf h
    refine r_iconst (v := 0) hC dX6_digit_54 rfl ?_
    refine r_L [1, 0] rfl ?_
    exact w_X6_digit_b55 hC hz hZ s0 x1 0 (M2 27 3) _ hf
  · have hf := if_F hf h
    refine r_iconst (v := 1) hC dX6_digit_50 rfl ?_
    refine r_goto 55 hC dX6_digit_51 (by decide) ?_
    refine r_L [1, 0] rfl ?_
    exact w_X6_digit_b55 hC hz hZ s0 x1 1 (M2 27 3) _ hf
set_option maxRecDepth 20000 in
theorem w_X6_digit {X : XX} {G : GG} {Z : ZZ} (hC : Cx X G RX6 cX6_digit (some .int) 1 0 0 5) (hz : ZOk G Z) (hZ : ZM Z) (v1 : Int32) (v2 : Int32) (M : Mem)  {r : Int32} {M' : Mem} (hf : f_X6_digit v1 v2 M = some (r, M')) : V X G Z M 0 0 (QN X G (QcI G Z r M') 0 0) 0 [(0, .ref (Z.1 27)), (1, .int v1), (2, .int v2)] [] := by
  unfold f_X6_digit at hf
  refine r_aload_n hC dX6_digit_0 0 rfl ?_
  refine gf_X6_173 hC (z_1 hZ 27 (by decide) rfl) rfl dX6_digit_1 ?_
  refine r_aload_n hC dX6_digit_4 0 rfl ?_
  refine gf_X6_166 hC (z_1 hZ 27 (by decide) rfl) rfl dX6_digit_5 ?_
  refine r_icmp_ge 26 hC dX6_digit_8 (by decide) (fun h => ?_) (fun h => ?_)
  · have hf := if_T hf h
    refine r_bipush (v := (-9)) hC dX6_digit_26 rfl ?_
    exact w_X6_digit_b28 hC hz hZ v1 v2 (-9) _ hf
  · have hf := if_F hf h
    refine r_aload_n hC dX6_digit_11 0 rfl ?_
    refine gf_X6_7 hC (z_1 hZ 27 (by decide) rfl) rfl dX6_digit_12 ?_
    refine r_aload_n hC dX6_digit_15 0 rfl ?_
    refine gf_X6_173 hC (z_1 hZ 27 (by decide) rfl) rfl dX6_digit_16 ?_
    have hin := if_K hf
    have hf := if_V hf
    refine r_iald hC (z_1 hZ 28 (by decide) rfl) (inb_vp hin) dX6_digit_19 ?_
    refine r_bipush (v := 48) hC dX6_digit_20 rfl ?_
    refine r_isub hC dX6_digit_22 ?_
    refine r_goto 28 hC dX6_digit_23 (by decide) ?_
    exact w_X6_digit_b28 hC hz hZ v1 v2 ((M 28 (Int32.toNatClampNeg (M 27 3))) - 48) _ hf
set_option maxRecDepth 20000 in
theorem c_X6_digit {l : Launch} (hl : l.stackTraces = false) {G : GG} {Z : ZZ} (hz : ZOk G Z) (hZ : ZM Z) (v1 : Int32) (v2 : Int32) (M : Mem)  (r : Int32) (M' : Mem) (hf : f_X6_digit v1 v2 M = some (r, M')) : CN (QcI G Z r M') l G Z yX6_digit cX6_digit 5 (some .int) 1 [.ref (Z.1 27), .int v1, .int v2] M :=
  CN.of [(0, .ref (Z.1 27)), (1, .int v1), (2, .int v2)] hl (by decide +kernel) (Nat.le_of_ble_eq_true rfl) rfl (fun _ hC => w_X6_digit hC hz hZ v1 v2 M  hf)
set_option maxRecDepth 20000 in
theorem w_X6_two_b56 {X : XX} {G : GG} {Z : ZZ} {r : Int32} {M' : Mem} (hC : Cx X G RX6 cX6_two (some .int) 2 0 0 5) (hz : ZOk G Z) (hZ : ZM Z) (v3 : Int32) (s0 : Int32) (s1 : Int32) (M : Mem) (hf : f_X6_two_b56 v3 s0 s1 M = some (r, M')) : V X G Z M 0 0 (QN X G (QcI G Z r M') 0 0) 56 [(3, .int v3)] [.int s0, .int s1, .ref (Z.1 27)] := by
  unfold f_X6_two_b56 at hf
  refine r_callVI [] (fun r M1 h => c_X6_digit (cx_st hC) hz hZ s1 s0 _  r M1 h) hf cs_X6_176 hC (z_1 hZ 27 (by decide) rfl) (q0 := (RX6, TX6, 19)) rfl rfl [.int s1, .int s0] rfl rfl rfl (by decide) (by decide) (Nat.le_of_ble_eq_true rfl) (by decide) (by decide) dX6_two_56 (fun x3 M4 hf => ?_)
  refine r_istore (L' := [(4, .int x3), (3, .int v3)]) hC dX6_two_59 (by decide) rfl ?_
  refine r_iload hC dX6_two_61 0 rfl ?_
  refine r_bipush (v := (-9)) hC dX6_two_63 rfl ?_
  refine r_icmp_ne 73 hC dX6_two_65 (by decide) (fun h => ?_) (fun h => ?_)
  · have hf := if_F hf h
    refine r_bipush (v := 10) hC dX6_two_73 rfl ?_
    refine r_iload_n hC dX6_two_75 1 rfl ?_
    refine r_imul hC dX6_two_76 ?_
    refine r_iload hC dX6_two_77 0 rfl ?_
    refine r_iadd hC dX6_two_79 ?_
    exact r_iret hf hC (by decide) (by decide) dX6_two_80
  · have hf := if_T hf h
    refine r_bipush (v := (-9)) hC dX6_two_68 rfl ?_
    refine r_goto 80 hC dX6_two_70 (by decide) ?_
    exact r_iret hf hC (by decide) (by decide) dX6_two_80
set_option maxRecDepth 20000 in
theorem w_X6_two_b39 {X : XX} {G : GG} {Z : ZZ} {r : Int32} {M' : Mem} (hC : Cx X G RX6 cX6_two (some .int) 2 0 0 5) (hz : ZOk G Z) (hZ : ZM Z) (v2 : Int32) (v3 : Int32) (s0 : Int32) (M : Mem) (hf : f_X6_two_b39 v2 v3 s0 M = some (r, M')) : V X G Z M 0 0 (QN X G (QcI G Z r M') 0 0) 39 [(2, .int v2), (3, .int v3)] [.int s0, .ref (Z.1 27)] := by
  unfold f_X6_two_b39 at hf
  refine r_iload_n hC dX6_two_39 1 rfl ?_
  refine r_iload_n hC dX6_two_40 0 rfl ?_
  refine r_bipush (v := 10) hC dX6_two_41 rfl ?_
  refine r_idiv hC dX6_two_43 (by decide) ?_
  refine r_icmp_ne 54 hC dX6_two_44 (by decide) (fun h => ?_) (fun h => ?_)
  · have hf := if_F hf h
    refine r_bipush (v := 9) hC dX6_two_54 rfl ?_
    refine r_L [1] rfl ?_
    exact w_X6_two_b56 hC hz hZ v3 9 s0 _ hf
  · have hf := if_T hf h
    refine r_iload_n hC dX6_two_47 0 rfl ?_
    refine r_bipush (v := 10) hC dX6_two_48 rfl ?_
    refine r_irem hC dX6_two_50 (by decide) ?_
    refine r_goto 56 hC dX6_two_51 (by decide) ?_
    refine r_L [1] rfl ?_
    exact w_X6_two_b56 hC hz hZ v3 (v2 - v2 / 10 * 10) s0 _ hf
set_option maxRecDepth 20000 in
theorem w_X6_two {X : XX} {G : GG} {Z : ZZ} (hC : Cx X G RX6 cX6_two (some .int) 2 0 0 5) (hz : ZOk G Z) (hZ : ZM Z) (v1 : Int32) (v2 : Int32) (M : Mem)  {r : Int32} {M' : Mem} (hf : f_X6_two v1 v2 M = some (r, M')) : V X G Z M 0 0 (QN X G (QcI G Z r M') 0 0) 0 [(0, .ref (Z.1 27)), (1, .int v1), (2, .int v2)] [] := by
  unfold f_X6_two at hf
  refine r_aload_n hC dX6_two_0 0 rfl ?_
  refine r_iload_n hC dX6_two_1 1 rfl ?_
  refine r_bipush (v := 10) hC dX6_two_2 rfl ?_
  refine r_idiv hC dX6_two_4 (by decide) ?_
  refine r_iload_n hC dX6_two_5 2 rfl ?_
  refine r_bipush (v := 10) hC dX6_two_6 rfl ?_
  refine r_idiv hC dX6_two_8 (by decide) ?_
  refine r_callVI [] (fun r M1 h => c_X6_digit (cx_st hC) hz hZ (v1 / 10) (v2 / 10) _  r M1 h) hf cs_X6_176 hC (z_1 hZ 27 (by decide) rfl) (q0 := (RX6, TX6, 19)) rfl rfl [.int (v1 / 10), .int (v2 / 10)] rfl rfl rfl (by decide) (by decide) (Nat.le_of_ble_eq_true rfl) (by decide) (by decide) dX6_two_9 (fun x1 M2 hf => ?_)
  refine r_istore_n (L' := [(3, .int x1), (0, .ref (Z.1 27)), (1, .int v1), (2, .int v2)]) hC dX6_two_12 (by decide) rfl ?_
  refine r_iload_n hC dX6_two_13 0 rfl ?_
  refine r_bipush (v := (-9)) hC dX6_two_14 rfl ?_
  refine r_icmp_ne 22 hC dX6_two_16 (by decide) (fun h => ?_) (fun h => ?_)
  · have hf := if_F hf h
    refine r_aload_n hC dX6_two_22 1 rfl ?_
    refine r_iload_n hC dX6_two_23 0 rfl ?_
    refine r_iload_n hC dX6_two_24 2 rfl ?_
    refine r_bipush (v := 10) hC dX6_two_25 rfl ?_
    refine r_idiv hC dX6_two_27 (by decide) ?_
    refine r_icmp_ne 38 hC dX6_two_28 (by decide) (fun h => ?_) (fun h => ?_)
    · have hf := if_F hf h
      refine r_iconst (v := 0) hC dX6_two_38 rfl ?_
      refine r_L [3, 0] rfl ?_
      exact w_X6_two_b39 hC hz hZ v2 x1 0 _ hf
    · have hf := if_T hf h
      refine r_iload_n hC dX6_two_31 2 rfl ?_
      refine r_bipush (v := 10) hC dX6_two_32 rfl ?_
      refine r_irem hC dX6_two_34 (by decide) ?_
      refine r_goto 39 hC dX6_two_35 (by decide) ?_
      refine r_L [3, 0] rfl ?_
      exact w_X6_two_b39 hC hz hZ v2 x1 (v1 - v1 / 10 * 10) _ hf
  · have hf := if_T hf h
    refine r_bipush (v := (-9)) hC dX6_two_19 rfl ?_
    exact r_iret hf hC (by decide) (by decide) dX6_two_21
set_option maxRecDepth 20000 in
theorem c_X6_two {l : Launch} (hl : l.stackTraces = false) {G : GG} {Z : ZZ} (hz : ZOk G Z) (hZ : ZM Z) (v1 : Int32) (v2 : Int32) (M : Mem)  (r : Int32) (M' : Mem) (hf : f_X6_two v1 v2 M = some (r, M')) : CN (QcI G Z r M') l G Z yX6_two cX6_two 5 (some .int) 2 [.ref (Z.1 27), .int v1, .int v2] M :=
  CN.of [(0, .ref (Z.1 27)), (1, .int v1), (2, .int v2)] hl (by decide +kernel) (Nat.le_of_ble_eq_true rfl) rfl (fun _ hC => w_X6_two hC hz hZ v1 v2 M  hf)
set_option maxRecDepth 20000 in
theorem w_X6_readCell_b56 {X : XX} {G : GG} {Z : ZZ} {r : Int32} {M' : Mem} (hC : Cx X G RX6 cX6_readCell (some .boolean) 3 0 0 4) (hz : ZOk G Z) (hZ : ZM Z) (v3 : Int32) (M : Mem) (hf : f_X6_readCell_b56 v3 M = some (r, M')) : V X G Z M 0 0 (QN X G (QcI G Z r M') 0 0) 56 [(0, .ref (Z.1 27)), (3, .int v3)] [] := by
  unfold f_X6_readCell_b56 at hf
  refine r_aload_n hC dX6_readCell_56 0 rfl ?_
  refine gf_X6_13 hC (z_1 hZ 27 (by decide) rfl) rfl dX6_readCell_57 ?_
  refine r_iload_n hC dX6_readCell_60 1 rfl ?_
  refine r_aload_n hC dX6_readCell_61 0 rfl ?_
  refine r_iconst (v := 0) hC dX6_readCell_62 rfl ?_
  refine r_bipush (v := 60) hC dX6_readCell_63 rfl ?_
  refine r_callVI [.int v3, .ref (Z.1 29)] (fun r M1 h => c_X6_two (cx_st hC) hz hZ 0 60 _  r M1 h) hf cs_X6_182 hC (z_1 hZ 27 (by decide) rfl) (q0 := (RX6, TX6, 19)) rfl rfl [.int 0, .int 60] rfl rfl rfl (by decide) (by decide) (Nat.le_of_ble_eq_true rfl) (by decide) (by decide) dX6_readCell_65 (fun x7 M8 hf => ?_)
  have hin := if_K hf
  have hf := if_V hf
  refine r_iast hC hz (z_1 hZ 29 (by decide) rfl) (inb_vp hin) dX6_readCell_68 ?_
  refine r_aload_n hC dX6_readCell_69 0 rfl ?_
  refine gf_X6_13 hC (z_1 hZ 27 (by decide) rfl) rfl dX6_readCell_70 ?_
  refine r_iload_n hC dX6_readCell_73 1 rfl ?_
  have hin := if_K hf
  have hf := if_V hf
  refine r_iald hC (z_1 hZ 29 (by decide) rfl) (inb_vp hin) dX6_readCell_74 ?_
  refine r_bipush (v := (-9)) hC dX6_readCell_75 rfl ?_
  refine r_icmp_eq 84 hC dX6_readCell_77 (by decide) (fun h => ?_) (fun h => ?_)
  · have hf := if_T hf h
    refine r_iconst (v := 0) hC dX6_readCell_84 rfl ?_
    exact r_zret hf hC rfl rfl (by decide) (by decide) dX6_readCell_85
  · have hf := if_F hf h
    refine r_iconst (v := 1) hC dX6_readCell_80 rfl ?_
    refine r_goto 85 hC dX6_readCell_81 (by decide) ?_
    exact r_zret hf hC rfl rfl (by decide) (by decide) dX6_readCell_85
set_option maxRecDepth 20000 in
theorem w_X6_readCell {X : XX} {G : GG} {Z : ZZ} (hC : Cx X G RX6 cX6_readCell (some .boolean) 3 0 0 4) (hz : ZOk G Z) (hZ : ZM Z) (v1 : Int32) (v2 : Int32) (M : Mem)  {r : Int32} {M' : Mem} (hf : f_X6_readCell v1 v2 M = some (r, M')) : V X G Z M 0 0 (QN X G (QcI G Z r M') 0 0) 0 [(0, .ref (Z.1 27)), (1, .int v1), (2, .int v2)] [] := by
  unfold f_X6_readCell at hf
  refine r_bipush (v := 8) hC dX6_readCell_0 rfl ?_
  refine r_iload_n hC dX6_readCell_2 1 rfl ?_
  refine r_iload_n hC dX6_readCell_3 2 rfl ?_
  refine r_callSI [.int 8] (fun r M1 h => c_X6_at (cx_st hC) hz hZ v1 v2 _  r M1 h) hf cs_X6_70 hC  rfl rfl (by decide) (by decide) (Nat.le_of_ble_eq_true rfl) (by decide) (by decide) dX6_readCell_4 (fun x1 M2 hf => ?_)
  refine r_iadd hC dX6_readCell_7 ?_
  refine r_istore_n (L' := [(3, .int (8 + x1)), (0, .ref (Z.1 27)), (1, .int v1), (2, .int v2)]) hC dX6_readCell_8 (by decide) rfl ?_
  refine r_aload_n hC dX6_readCell_9 1 rfl ?_
  refine r_bipush (v := 45) hC dX6_readCell_10 rfl ?_
  refine r_callVI [] (fun r M1 h => c_X6_eat (cx_st hC) hz hZ 45 _  r M1 h) hf cs_X6_179 hC (z_1 hZ 27 (by decide) rfl) (q0 := (RX6, TX6, 19)) rfl rfl [.int 45] rfl rfl rfl (by decide) (by decide) (Nat.le_of_ble_eq_true rfl) (by decide) (by decide) dX6_readCell_12 (fun x3 M4 hf => ?_)
  refine r_if_eq 20 hC dX6_readCell_15 (by decide) (fun h => ?_) (fun h => ?_)
  · have hf := if_T hf h
    refine r_iload_n hC dX6_readCell_20 3 rfl ?_
    refine r_if_le 56 hC dX6_readCell_21 (by decide) (fun h => ?_) (fun h => ?_)
    · have hf := if_T hf h
      refine r_L [1, 0] rfl ?_
      exact w_X6_readCell_b56 hC hz hZ (8 + x1) _ hf
    · have hf := if_F hf h
      refine r_aload_n hC dX6_readCell_24 1 rfl ?_
      refine gf_X6_13 hC (z_1 hZ 27 (by decide) rfl) rfl dX6_readCell_25 ?_
      refine r_iload_n hC dX6_readCell_28 0 rfl ?_
      refine r_iconst (v := 1) hC dX6_readCell_29 rfl ?_
      refine r_isub hC dX6_readCell_30 ?_
      have hin := if_K hf
      have hf := if_V hf
      refine r_iald hC (z_1 hZ 29 (by decide) rfl) (inb_vp hin) dX6_readCell_31 ?_
      refine r_bipush (v := (-9)) hC dX6_readCell_32 rfl ?_
      refine r_icmp_eq 56 hC dX6_readCell_34 (by decide) (fun h => ?_) (fun h => ?_)
      · have hf := if_T hf h
        refine r_L [1, 0] rfl ?_
        exact w_X6_readCell_b56 hC hz hZ (8 + x1) _ hf
      · have hf := if_F hf h
        refine r_aload_n hC dX6_readCell_37 1 rfl ?_
        refine r_bipush (v := 61) hC dX6_readCell_38 rfl ?_
        refine r_callVI [] (fun r M1 h => c_X6_eat (cx_st hC) hz hZ 61 _  r M1 h) hf cs_X6_179 hC (z_1 hZ 27 (by decide) rfl) (q0 := (RX6, TX6, 19)) rfl rfl [.int 61] rfl rfl rfl (by decide) (by decide) (Nat.le_of_ble_eq_true rfl) (by decide) (by decide) dX6_readCell_40 (fun x5 M6 hf => ?_)
        refine r_if_eq 56 hC dX6_readCell_43 (by decide) (fun h => ?_) (fun h => ?_)
        · have hf := if_T hf h
          refine r_L [1, 0] rfl ?_
          exact w_X6_readCell_b56 hC hz hZ (8 + x1) _ hf
        · have hf := if_F hf h
          refine r_aload_n hC dX6_readCell_46 1 rfl ?_
          refine gf_X6_13 hC (z_1 hZ 27 (by decide) rfl) rfl dX6_readCell_47 ?_
          refine r_iload_n hC dX6_readCell_50 0 rfl ?_
          refine r_bipush (v := 99) hC dX6_readCell_51 rfl ?_
          have hin := if_K hf
          have hf := if_V hf
          refine r_iast hC hz (z_1 hZ 29 (by decide) rfl) (inb_vp hin) dX6_readCell_53 ?_
          refine r_iconst (v := 1) hC dX6_readCell_54 rfl ?_
          exact r_zret hf hC rfl rfl (by decide) (by decide) dX6_readCell_55
  · have hf := if_F hf h
    refine r_iconst (v := 1) hC dX6_readCell_18 rfl ?_
    exact r_zret hf hC rfl rfl (by decide) (by decide) dX6_readCell_19
set_option maxRecDepth 20000 in
theorem c_X6_readCell {l : Launch} (hl : l.stackTraces = false) {G : GG} {Z : ZZ} (hz : ZOk G Z) (hZ : ZM Z) (v1 : Int32) (v2 : Int32) (M : Mem)  (r : Int32) (M' : Mem) (hf : f_X6_readCell v1 v2 M = some (r, M')) : CN (QcI G Z r M') l G Z yX6_readCell cX6_readCell 4 (some .boolean) 3 [.ref (Z.1 27), .int v1, .int v2] M :=
  CN.of [(0, .ref (Z.1 27)), (1, .int v1), (2, .int v2)] hl (by decide +kernel) (Nat.le_of_ble_eq_true rfl) rfl (fun _ hC => w_X6_readCell hC hz hZ v1 v2 M  hf)
set_option maxRecDepth 20000 in
theorem w_X6_readAll_b96 {X : XX} {G : GG} {Z : ZZ} {r : Int32} {M' : Mem} (hC : Cx X G RX6 cX6_readAll (some .boolean) 4 0 0 3) (hz : ZOk G Z) (hZ : ZM Z) (v1 : Int32) (k83 : Int32 → Mem → Option (Int32 × Mem)) (hk83 : ∀ (u1 : Int32) (M : Mem), k83 u1 M = some (r, M') → V X G Z M 0 0 (QN X G (QcI G Z r M') 0 0) 83 [(0, .ref (Z.1 27)), (1, .int u1)] []) (k96 : Int32 → Mem → Option (Int32 × Mem)) (hk96 : ∀ (u2 : Int32) (M : Mem), k96 u2 M = some (r, M') → V X G Z M 0 0 (QN X G (QcI G Z r M') 0 0) 96 [(0, .ref (Z.1 27)), (1, .int v1), (2, .int u2)] []) (v2 : Int32) (M : Mem) (hf : f_X6_readAll_b96 v1 k83 k96 v2 M = some (r, M')) : V X G Z M 0 0 (QN X G (QcI G Z r M') 0 0) 96 [(0, .ref (Z.1 27)), (1, .int v1), (2, .int v2)] [] := by
  unfold f_X6_readAll_b96 at hf
  refine r_iload_n hC dX6_readAll_96 2 rfl ?_
  refine r_aload_n hC dX6_readAll_97 0 rfl ?_
  refine gf_X6_13 hC (z_1 hZ 27 (by decide) rfl) rfl dX6_readAll_98 ?_
  refine r_bipush (v := 7) hC dX6_readAll_101 rfl ?_
  have hin := if_K hf
  have hf := if_V hf
  refine r_iald hC (z_1 hZ 29 (by decide) rfl) (inb_vp hin) dX6_readAll_103 ?_
  refine r_icmp_ge 124 hC dX6_readAll_104 (by decide) (fun h => ?_) (fun h => ?_)
  · have hf := if_T hf h
    refine r_iinc (v := v1 + 1) (L' := [(1, .int (v1 + 1)), (0, .ref (Z.1 27)), (2, .int v2)]) hC dX6_readAll_124 1 rfl rfl (by decide) rfl ?_
    refine r_goto 83 hC dX6_readAll_127 (by decide) ?_
    refine r_L [1, 0] rfl ?_
    exact hk83 _ _ hf
  · have hf := if_F hf h
    refine r_aload_n hC dX6_readAll_107 0 rfl ?_
    refine r_iload_n hC dX6_readAll_108 1 rfl ?_
    refine r_iload_n hC dX6_readAll_109 2 rfl ?_
    refine r_callVI [] (fun r M1 h => c_X6_readCell (cx_st hC) hz hZ v1 v2 _  r M1 h) hf cs_X6_185 hC (z_1 hZ 27 (by decide) rfl) (q0 := (RX6, TX6, 19)) rfl rfl [.int v1, .int v2] rfl rfl rfl (by decide) (by decide) (Nat.le_of_ble_eq_true rfl) (by decide) (by decide) dX6_readAll_110 (fun x9 M10 hf => ?_)
    refine r_if_ne 118 hC dX6_readAll_113 (by decide) (fun h => ?_) (fun h => ?_)
    · have hf := if_F hf h
      refine r_iinc (v := v2 + 1) (L' := [(2, .int (v2 + 1)), (0, .ref (Z.1 27)), (1, .int v1)]) hC dX6_readAll_118 2 rfl rfl (by decide) rfl ?_
      refine r_goto 96 hC dX6_readAll_121 (by decide) ?_
      refine r_L [1, 2, 0] rfl ?_
      exact hk96 _ _ hf
    · have hf := if_T hf h
      refine r_iconst (v := 0) hC dX6_readAll_116 rfl ?_
      exact r_zret hf hC rfl rfl (by decide) (by decide) dX6_readAll_117
set_option maxRecDepth 20000 in
theorem w_X6_readAll_b130 {X : XX} {G : GG} {Z : ZZ} {r : Int32} {M' : Mem} (hC : Cx X G RX6 cX6_readAll (some .boolean) 4 0 0 3) (hz : ZOk G Z) (hZ : ZM Z)  (M : Mem) (hf : f_X6_readAll_b130  M = some (r, M')) : V X G Z M 0 0 (QN X G (QcI G Z r M') 0 0) 130 [(0, .ref (Z.1 27))] [] := by
  unfold f_X6_readAll_b130 at hf
  refine r_aload_n hC dX6_readAll_130 0 rfl ?_
  refine gf_X6_173 hC (z_1 hZ 27 (by decide) rfl) rfl dX6_readAll_131 ?_
  refine r_aload_n hC dX6_readAll_134 0 rfl ?_
  refine gf_X6_166 hC (z_1 hZ 27 (by decide) rfl) rfl dX6_readAll_135 ?_
  refine r_icmp_ne 145 hC dX6_readAll_138 (by decide) (fun h => ?_) (fun h => ?_)
  · have hf := if_F hf h
    refine r_iconst (v := 0) hC dX6_readAll_145 rfl ?_
    exact r_zret hf hC rfl rfl (by decide) (by decide) dX6_readAll_146
  · have hf := if_T hf h
    refine r_iconst (v := 1) hC dX6_readAll_141 rfl ?_
    refine r_goto 146 hC dX6_readAll_142 (by decide) ?_
    exact r_zret hf hC rfl rfl (by decide) (by decide) dX6_readAll_146
set_option maxRecDepth 20000 in
theorem w_X6_readAll_b83 {X : XX} {G : GG} {Z : ZZ} {r : Int32} {M' : Mem} (hC : Cx X G RX6 cX6_readAll (some .boolean) 4 0 0 3) (hz : ZOk G Z) (hZ : ZM Z) (k83 : Int32 → Mem → Option (Int32 × Mem)) (hk83 : ∀ (u1 : Int32) (M : Mem), k83 u1 M = some (r, M') → V X G Z M 0 0 (QN X G (QcI G Z r M') 0 0) 83 [(0, .ref (Z.1 27)), (1, .int u1)] []) (v1 : Int32) (M : Mem) (hf : f_X6_readAll_b83 k83 v1 M = some (r, M')) : V X G Z M 0 0 (QN X G (QcI G Z r M') 0 0) 83 [(0, .ref (Z.1 27)), (1, .int v1)] [] := by
  unfold f_X6_readAll_b83 at hf
  refine r_iload_n hC dX6_readAll_83 1 rfl ?_
  refine r_aload_n hC dX6_readAll_84 0 rfl ?_
  refine gf_X6_13 hC (z_1 hZ 27 (by decide) rfl) rfl dX6_readAll_85 ?_
  refine r_bipush (v := 6) hC dX6_readAll_88 rfl ?_
  have hin := if_K hf
  have hf := if_V hf
  refine r_iald hC (z_1 hZ 29 (by decide) rfl) (inb_vp hin) dX6_readAll_90 ?_
  refine r_icmp_ge 130 hC dX6_readAll_91 (by decide) (fun h => ?_) (fun h => ?_)
  · have hf := if_T hf h
    refine r_L [0] rfl ?_
    exact w_X6_readAll_b130 hC hz hZ  _ hf
  · have hf := if_F hf h
    refine r_iconst (v := 0) hC dX6_readAll_94 rfl ?_
    refine r_istore_n (L' := [(2, .int 0), (0, .ref (Z.1 27)), (1, .int v1)]) hC dX6_readAll_95 (by decide) rfl ?_
    refine r_L [1, 2, 0] rfl ?_
    exact lq1_ind (P := fun (u2 : Int32) (M : Mem) => V X G Z M 0 0 (QN X G (QcI G Z r M') 0 0) 96 [(0, .ref (Z.1 27)), (1, .int v1), (2, .int u2)] []) (fun kk hkk u2 M hf => w_X6_readAll_b96 hC hz hZ v1 k83 hk83 kk hkk u2 M hf) _ _ _ hf
set_option maxRecDepth 20000 in
theorem w_X6_readAll_b66 {X : XX} {G : GG} {Z : ZZ} {r : Int32} {M' : Mem} (hC : Cx X G RX6 cX6_readAll (some .boolean) 4 0 0 3) (hz : ZOk G Z) (hZ : ZM Z) (s0 : Int32) (s1 : Int32) (s2 : Nat) (hs2 : ArI s2) (M : Mem) (hf : f_X6_readAll_b66 s0 s1 s2 M = some (r, M')) : V X G Z M 0 0 (QN X G (QcI G Z r M') 0 0) 66 [(0, .ref (Z.1 27))] [.int s0, .int s1, .ref (Z.1 s2)] := by
  unfold f_X6_readAll_b66 at hf
  have hin := if_K hf
  have hf := if_V hf
  refine r_iast hC hz (z_r hZ hs2) (inb_vp hin) dX6_readAll_66 ?_
  refine r_aload_n hC dX6_readAll_67 0 rfl ?_
  refine gf_X6_13 hC (z_1 hZ 27 (by decide) rfl) rfl dX6_readAll_68 ?_
  refine r_bipush (v := 7) hC dX6_readAll_71 rfl ?_
  have hin := if_K hf
  have hf := if_V hf
  refine r_iald hC (z_1 hZ 29 (by decide) rfl) (inb_vp hin) dX6_readAll_73 ?_
  refine r_bipush (v := (-9)) hC dX6_readAll_74 rfl ?_
  refine r_icmp_ne 81 hC dX6_readAll_76 (by decide) (fun h => ?_) (fun h => ?_)
  · have hf := if_F hf h
    refine r_iconst (v := 0) hC dX6_readAll_81 rfl ?_
    refine r_istore_n (L' := [(1, .int 0), (0, .ref (Z.1 27))]) hC dX6_readAll_82 (by decide) rfl ?_
    refine r_L [1, 0] rfl ?_
    exact lq1_ind (P := fun (u1 : Int32) (M : Mem) => V X G Z M 0 0 (QN X G (QcI G Z r M') 0 0) 83 [(0, .ref (Z.1 27)), (1, .int u1)] []) (fun kk hkk u1 M hf => w_X6_readAll_b83 hC hz hZ  kk hkk u1 M hf) _ _ _ hf
  · have hf := if_T hf h
    refine r_iconst (v := 0) hC dX6_readAll_79 rfl ?_
    exact r_zret hf hC rfl rfl (by decide) (by decide) dX6_readAll_80
set_option maxRecDepth 20000 in
theorem w_X6_readAll {X : XX} {G : GG} {Z : ZZ} (hC : Cx X G RX6 cX6_readAll (some .boolean) 4 0 0 3) (hz : ZOk G Z) (hZ : ZM Z)  (M : Mem)  {r : Int32} {M' : Mem} (hf : f_X6_readAll  M = some (r, M')) : V X G Z M 0 0 (QN X G (QcI G Z r M') 0 0) 0 [(0, .ref (Z.1 27))] [] := by
  unfold f_X6_readAll at hf
  refine r_aload_n hC dX6_readAll_0 0 rfl ?_
  refine r_iconst (v := 0) hC dX6_readAll_1 rfl ?_
  refine pf_X6_173 hC hz (z_1 hZ 27 (by decide) rfl) rfl dX6_readAll_2 ?_
  refine r_aload_n hC dX6_readAll_5 0 rfl ?_
  refine gf_X6_13 hC (z_1 hZ 27 (by decide) rfl) rfl dX6_readAll_6 ?_
  refine r_callSV [] (fun r M1 h => c_X6_begin (cx_st hC) hz hZ 29 _ ⟨by decide, rfl⟩ r M1 h) hf cs_X6_56 hC  rfl rfl (by decide) (by decide) (Nat.le_of_ble_eq_true rfl) (by decide) (by decide) dX6_readAll_9 (fun x1 M2 hf => ?_)
  refine r_aload_n hC dX6_readAll_12 0 rfl ?_
  refine r_bipush (v := 77) hC dX6_readAll_13 rfl ?_
  refine r_callVI [] (fun r M1 h => c_X6_eat (cx_st hC) hz hZ 77 _  r M1 h) hf cs_X6_179 hC (z_1 hZ 27 (by decide) rfl) (q0 := (RX6, TX6, 19)) rfl rfl [.int 77] rfl rfl rfl (by decide) (by decide) (Nat.le_of_ble_eq_true rfl) (by decide) (by decide) dX6_readAll_15 (fun x3 M4 hf => ?_)
  refine r_if_ne 23 hC dX6_readAll_18 (by decide) (fun h => ?_) (fun h => ?_)
  · have hf := if_F hf h
    refine r_aload_n hC dX6_readAll_23 0 rfl ?_
    refine gf_X6_13 hC (z_1 hZ 27 (by decide) rfl) rfl dX6_readAll_24 ?_
    refine r_bipush (v := 6) hC dX6_readAll_27 rfl ?_
    refine r_aload_n hC dX6_readAll_29 0 rfl ?_
    refine r_iconst (v := 1) hC dX6_readAll_30 rfl ?_
    refine r_iconst (v := 4) hC dX6_readAll_31 rfl ?_
    refine r_callVI [.int 6, .ref (Z.1 29)] (fun r M1 h => c_X6_digit (cx_st hC) hz hZ 1 4 _  r M1 h) hf cs_X6_176 hC (z_1 hZ 27 (by decide) rfl) (q0 := (RX6, TX6, 19)) rfl rfl [.int 1, .int 4] rfl rfl rfl (by decide) (by decide) (Nat.le_of_ble_eq_true rfl) (by decide) (by decide) dX6_readAll_32 (fun x5 M6 hf => ?_)
    have hin := if_K hf
    have hf := if_V hf
    refine r_iast hC hz (z_1 hZ 29 (by decide) rfl) (inb_vp hin) dX6_readAll_35 ?_
    refine r_aload_n hC dX6_readAll_36 0 rfl ?_
    refine gf_X6_13 hC (z_1 hZ 27 (by decide) rfl) rfl dX6_readAll_37 ?_
    refine r_bipush (v := 7) hC dX6_readAll_40 rfl ?_
    refine r_aload_n hC dX6_readAll_42 0 rfl ?_
    refine gf_X6_13 hC (z_1 hZ 27 (by decide) rfl) rfl dX6_readAll_43 ?_
    refine r_bipush (v := 6) hC dX6_readAll_46 rfl ?_
    have hin := if_K hf
    have hf := if_V hf
    refine r_iald hC (z_1 hZ 29 (by decide) rfl) (inb_vp hin) dX6_readAll_48 ?_
    refine r_bipush (v := (-9)) hC dX6_readAll_49 rfl ?_
    refine r_icmp_ne 59 hC dX6_readAll_51 (by decide) (fun h => ?_) (fun h => ?_)
    · have hf := if_F hf h
      refine r_aload_n hC dX6_readAll_59 0 rfl ?_
      refine r_iconst (v := 1) hC dX6_readAll_60 rfl ?_
      refine r_bipush (v := 16) hC dX6_readAll_61 rfl ?_
      refine r_callVI [.int 7, .ref (Z.1 29)] (fun r M1 h => c_X6_two (cx_st hC) hz hZ 1 16 _  r M1 h) hf cs_X6_182 hC (z_1 hZ 27 (by decide) rfl) (q0 := (RX6, TX6, 19)) rfl rfl [.int 1, .int 16] rfl rfl rfl (by decide) (by decide) (Nat.le_of_ble_eq_true rfl) (by decide) (by decide) dX6_readAll_63 (fun x7 M8 hf => ?_)
      exact w_X6_readAll_b66 hC hz hZ x7 7 29 ⟨by decide, rfl⟩ _ hf
    · have hf := if_T hf h
      refine r_bipush (v := (-9)) hC dX6_readAll_54 rfl ?_
      refine r_goto 66 hC dX6_readAll_56 (by decide) ?_
      exact w_X6_readAll_b66 hC hz hZ (-9) 7 29 ⟨by decide, rfl⟩ _ hf
  · have hf := if_T hf h
    refine r_iconst (v := 0) hC dX6_readAll_21 rfl ?_
    exact r_zret hf hC rfl rfl (by decide) (by decide) dX6_readAll_22
set_option maxRecDepth 20000 in
theorem c_X6_readAll {l : Launch} (hl : l.stackTraces = false) {G : GG} {Z : ZZ} (hz : ZOk G Z) (hZ : ZM Z)  (M : Mem)  (r : Int32) (M' : Mem) (hf : f_X6_readAll  M = some (r, M')) : CN (QcI G Z r M') l G Z yX6_readAll cX6_readAll 3 (some .boolean) 4 [.ref (Z.1 27)] M :=
  CN.of [(0, .ref (Z.1 27))] hl (by decide +kernel) (Nat.le_of_ble_eq_true rfl) rfl (fun _ hC => w_X6_readAll hC hz hZ  M  hf)
set_option maxRecDepth 20000 in
theorem w_X6_errorPosition {X : XX} {G : GG} {Z : ZZ} (hC : Cx X G RX6 cX6_errorPosition (some .int) 5 0 0 1) (hz : ZOk G Z) (hZ : ZM Z)  (M : Mem)  {r : Int32} {M' : Mem} (hf : f_X6_errorPosition  M = some (r, M')) : V X G Z M 0 0 (QN X G (QcI G Z r M') 0 0) 0 [(0, .ref (Z.1 27))] [] := by
  unfold f_X6_errorPosition at hf
  refine r_aload_n hC dX6_errorPosition_0 0 rfl ?_
  refine r_iconst (v := 0) hC dX6_errorPosition_1 rfl ?_
  refine pf_X6_60 hC hz (z_1 hZ 27 (by decide) rfl) rfl dX6_errorPosition_2 ?_
  refine r_aload_n hC dX6_errorPosition_5 0 rfl ?_
  refine r_callVI [] (fun r M1 h => c_X6_readAll (cx_st hC) hz hZ  _  r M1 h) hf cs_X6_188 hC (z_1 hZ 27 (by decide) rfl) (q0 := (RX6, TX6, 19)) rfl rfl [] rfl rfl rfl (by decide) (by decide) (Nat.le_of_ble_eq_true rfl) (by decide) (by decide) dX6_errorPosition_6 (fun x1 M2 hf => ?_)
  refine r_if_eq 17 hC dX6_errorPosition_9 (by decide) (fun h => ?_) (fun h => ?_)
  · have hf := if_T hf h
    refine r_aload_n hC dX6_errorPosition_17 0 rfl ?_
    refine gf_X6_173 hC (z_1 hZ 27 (by decide) rfl) rfl dX6_errorPosition_18 ?_
    exact r_iret hf hC (by decide) (by decide) dX6_errorPosition_21
  · have hf := if_F hf h
    refine r_bipush (v := (-9)) hC dX6_errorPosition_12 rfl ?_
    refine r_goto 21 hC dX6_errorPosition_14 (by decide) ?_
    exact r_iret hf hC (by decide) (by decide) dX6_errorPosition_21
set_option maxRecDepth 20000 in
theorem c_X6_errorPosition {l : Launch} (hl : l.stackTraces = false) {G : GG} {Z : ZZ} (hz : ZOk G Z) (hZ : ZM Z)  (M : Mem)  (r : Int32) (M' : Mem) (hf : f_X6_errorPosition  M = some (r, M')) : CN (QcI G Z r M') l G Z yX6_errorPosition cX6_errorPosition 1 (some .int) 5 [.ref (Z.1 27)] M :=
  CN.of [(0, .ref (Z.1 27))] hl (by decide +kernel) (Nat.le_of_ble_eq_true rfl) rfl (fun _ hC => w_X6_errorPosition hC hz hZ  M  hf)
set_option maxRecDepth 20000 in
theorem w_X6_load_b13 {X : XX} {G : GG} {Z : ZZ} {r : Int32} {M' : Mem} (hC : Cx X G RX6 cX6_load (some .int) 5 0 0 1) (hz : ZOk G Z) (hZ : ZM Z) (s0 : Int32) (M : Mem) (hf : f_X6_load_b13 s0 M = some (r, M')) : V X G Z M 0 0 (QN X G (QcI G Z r M') 0 0) 13 [(0, .ref (Z.1 27))] [.int s0, .ref (Z.1 27)] := by
  unfold f_X6_load_b13 at hf
  refine r_callVI [] (fun r M1 h => c_X6_refused (cx_st hC) hz hZ s0 _  r M1 h) hf cs_X6_169 hC (z_1 hZ 27 (by decide) rfl) (q0 := (RX6, TX6, 19)) rfl rfl [.int s0] rfl rfl rfl (by decide) (by decide) (Nat.le_of_ble_eq_true rfl) (by decide) (by decide) dX6_load_13 (fun x3 M4 hf => ?_)
  refine r_if_eq 21 hC dX6_load_16 (by decide) (fun h => ?_) (fun h => ?_)
  · have hf := if_T hf h
    refine r_aload_n hC dX6_load_21 0 rfl ?_
    refine gf_X6_13 hC (z_1 hZ 27 (by decide) rfl) rfl dX6_load_22 ?_
    refine r_iconst (v := 0) hC dX6_load_25 rfl ?_
    refine r_aload_n hC dX6_load_26 0 rfl ?_
    refine gf_X6_16 hC (z_1 hZ 27 (by decide) rfl) rfl dX6_load_27 ?_
    refine r_iconst (v := 0) hC dX6_load_30 rfl ?_
    refine r_callSV [] (fun r M1 h => c_X6_copyPage (cx_st hC) hz hZ 29 0 30 0 _ ⟨by decide, rfl⟩ ⟨by decide, rfl⟩ r M1 h) hf cs_X6_192 hC  rfl rfl (by decide) (by decide) (Nat.le_of_ble_eq_true rfl) (by decide) (by decide) dX6_load_31 (fun x5 M6 hf => ?_)
    refine r_aload_n hC dX6_load_34 0 rfl ?_
    refine r_iconst (v := 0) hC dX6_load_35 rfl ?_
    refine pf_X6_196 hC hz (z_1 hZ 27 (by decide) rfl) rfl dX6_load_36 ?_
    refine r_aload_n hC dX6_load_39 0 rfl ?_
    refine gf_X6_31 hC (z_1 hZ 27 (by decide) rfl) rfl dX6_load_40 ?_
    refine r_iconst (v := 0) hC dX6_load_43 rfl ?_
    refine r_iconst (v := 0) hC dX6_load_44 rfl ?_
    have hin := if_K hf
    have hf := if_V hf
    refine r_zast hC hz (z_1 hZ 35 (by decide) rfl) (inb_vp hin) dX6_load_45 ?_
    refine r_aload_n hC dX6_load_46 0 rfl ?_
    refine gf_X6_31 hC (z_1 hZ 27 (by decide) rfl) rfl dX6_load_47 ?_
    refine r_iconst (v := 1) hC dX6_load_50 rfl ?_
    refine r_iconst (v := 0) hC dX6_load_51 rfl ?_
    have hin := if_K hf
    have hf := if_V hf
    refine r_zast hC hz (z_1 hZ 35 (by decide) rfl) (inb_vp hin) dX6_load_52 ?_
    refine r_aload_n hC dX6_load_53 0 rfl ?_
    refine gf_X6_16 hC (z_1 hZ 27 (by decide) rfl) rfl dX6_load_54 ?_
    refine r_bipush (v := 7) hC dX6_load_57 rfl ?_
    have hin := if_K hf
    have hf := if_V hf
    refine r_iald hC (z_1 hZ 30 (by decide) rfl) (inb_vp hin) dX6_load_59 ?_
    exact r_iret hf hC (by decide) (by decide) dX6_load_60
  · have hf := if_F hf h
    refine r_iconst (v := 0) hC dX6_load_19 rfl ?_
    exact r_iret hf hC (by decide) (by decide) dX6_load_20
set_option maxRecDepth 20000 in
theorem w_X6_load {X : XX} {G : GG} {Z : ZZ} (hC : Cx X G RX6 cX6_load (some .int) 5 0 0 1) (hz : ZOk G Z) (hZ : ZM Z)  (M : Mem)  {r : Int32} {M' : Mem} (hf : f_X6_load  M = some (r, M')) : V X G Z M 0 0 (QN X G (QcI G Z r M') 0 0) 0 [(0, .ref (Z.1 27))] [] := by
  unfold f_X6_load at hf
  refine r_aload_n hC dX6_load_0 0 rfl ?_
  refine r_aload_n hC dX6_load_1 0 rfl ?_
  refine r_callVI [.ref (Z.1 27)] (fun r M1 h => c_X6_readAll (cx_st hC) hz hZ  _  r M1 h) hf cs_X6_188 hC (z_1 hZ 27 (by decide) rfl) (q0 := (RX6, TX6, 19)) rfl rfl [] rfl rfl rfl (by decide) (by decide) (Nat.le_of_ble_eq_true rfl) (by decide) (by decide) dX6_load_2 (fun x1 M2 hf => ?_)
  refine r_if_eq 12 hC dX6_load_5 (by decide) (fun h => ?_) (fun h => ?_)
  · have hf := if_T hf h
    refine r_iconst (v := 1) hC dX6_load_12 rfl ?_
    exact w_X6_load_b13 hC hz hZ 1 _ hf
  · have hf := if_F hf h
    refine r_iconst (v := 0) hC dX6_load_8 rfl ?_
    refine r_goto 13 hC dX6_load_9 (by decide) ?_
    exact w_X6_load_b13 hC hz hZ 0 _ hf
set_option maxRecDepth 20000 in
theorem c_X6_load {l : Launch} (hl : l.stackTraces = false) {G : GG} {Z : ZZ} (hz : ZOk G Z) (hZ : ZM Z)  (M : Mem)  (r : Int32) (M' : Mem) (hf : f_X6_load  M = some (r, M')) : CN (QcI G Z r M') l G Z yX6_load cX6_load 1 (some .int) 5 [.ref (Z.1 27)] M :=
  CN.of [(0, .ref (Z.1 27))] hl (by decide +kernel) (Nat.le_of_ble_eq_true rfl) rfl (fun _ hC => w_X6_load hC hz hZ  M  hf)
set_option maxRecDepth 20000 in
theorem w_X6_cellsLike_b15 {X : XX} {G : GG} {Z : ZZ} {r : Int32} {M' : Mem} (hC : Cx X G RX6 cX6_cellsLike (some .int) 1 0 0 6) (hz : ZOk G Z) (hZ : ZM Z) (r0 : Nat) (v1 : Int32) (v3 : Int32) (hr0 : ArI r0) (k4 : Int32 → Int32 → Mem → Option (Int32 × Mem)) (hk4 : ∀ (u2 : Int32) (u3 : Int32) (M : Mem), k4 u2 u3 M = some (r, M') → V X G Z M 0 0 (QN X G (QcI G Z r M') 0 0) 4 [(0, .ref (Z.1 r0)), (1, .int v1), (2, .int u2), (3, .int u3)] []) (k15 : Int32 → Int32 → Mem → Option (Int32 × Mem)) (hk15 : ∀ (u2 : Int32) (u4 : Int32) (M : Mem), k15 u2 u4 M = some (r, M') → V X G Z M 0 0 (QN X G (QcI G Z r M') 0 0) 15 [(0, .ref (Z.1 r0)), (1, .int v1), (2, .int u2), (3, .int v3), (4, .int u4)] []) (v2 : Int32) (v4 : Int32) (M : Mem) (hf : f_X6_cellsLike_b15 r0 v1 v3 k4 k15 v2 v4 M = some (r, M')) : V X G Z M 0 0 (QN X G (QcI G Z r M') 0 0) 15 [(0, .ref (Z.1 r0)), (1, .int v1), (2, .int v2), (3, .int v3), (4, .int v4)] [] := by
  unfold f_X6_cellsLike_b15 at hf
  refine r_iload hC dX6_cellsLike_15 4 rfl ?_
  refine r_aload_n hC dX6_cellsLike_17 0 rfl ?_
  refine r_bipush (v := 7) hC dX6_cellsLike_18 rfl ?_
  have hin := if_K hf
  have hf := if_V hf
  refine r_iald hC (z_r hZ hr0) (inb_vp hin) dX6_cellsLike_20 ?_
  refine r_icmp_ge 83 hC dX6_cellsLike_21 (by decide) (fun h => ?_) (fun h => ?_)
  · have hf := if_T hf h
    refine r_iinc (v := v3 + 1) (L' := [(3, .int (v3 + 1)), (0, .ref (Z.1 r0)), (1, .int v1), (2, .int v2), (4, .int v4)]) hC dX6_cellsLike_83 3 rfl rfl (by decide) rfl ?_
    refine r_goto 4 hC dX6_cellsLike_86 (by decide) ?_
    refine r_L [1, 2, 3, 0] rfl ?_
    exact hk4 _ _ _ hf
  · have hf := if_F hf h
    refine r_aload_n hC dX6_cellsLike_24 0 rfl ?_
    refine r_bipush (v := 8) hC dX6_cellsLike_25 rfl ?_
    refine r_iload_n hC dX6_cellsLike_27 3 rfl ?_
    refine r_iload hC dX6_cellsLike_28 4 rfl ?_
    refine r_callSI [.int 8, .ref (Z.1 r0)] (fun r M1 h => c_X6_at (cx_st hC) hz hZ v3 v4 _  r M1 h) hf cs_X6_70 hC  rfl rfl (by decide) (by decide) (Nat.le_of_ble_eq_true rfl) (by decide) (by decide) dX6_cellsLike_30 (fun x1 M2 hf => ?_)
    refine r_iadd hC dX6_cellsLike_33 ?_
    have hin := if_K hf
    have hf := if_V hf
    refine r_iald hC (z_r hZ hr0) (inb_vp hin) dX6_cellsLike_34 ?_
    refine r_istore (L' := [(5, .int (M2 r0 (Int32.toNatClampNeg (8 + x1)))), (0, .ref (Z.1 r0)), (1, .int v1), (2, .int v2), (3, .int v3), (4, .int v4)]) hC dX6_cellsLike_35 (by decide) rfl ?_
    refine r_iload_n hC dX6_cellsLike_37 3 rfl ?_
    refine r_iload_n hC dX6_cellsLike_38 2 rfl ?_
    refine r_if_eq 57 hC dX6_cellsLike_39 (by decide) (fun h => ?_) (fun h => ?_)
    · have hf := if_T hf h
      refine r_iload hC dX6_cellsLike_57 0 rfl ?_
      refine r_i2l hC dX6_cellsLike_59 ?_
      refine r_lconst (v := 0) hC dX6_cellsLike_60 rfl ?_
      refine r_ldc2 (v := 60) hC dX6_cellsLike_61 kw_X6_199 ?_
      refine r_callSI [.int v2] (fun r M1 h => c_X6_in (cx_st hC) hz hZ (Int32.toInt64 (M2 r0 (Int32.toNatClampNeg (8 + x1)))) 0 60 _  r M1 h) hf cs_X6_66 hC  rfl rfl (by decide) (by decide) (Nat.le_of_ble_eq_true rfl) (by decide) (by decide) dX6_cellsLike_64 (fun x3 M4 hf => ?_)
      refine r_if_eq 74 hC dX6_cellsLike_67 (by decide) (fun h => ?_) (fun h => ?_)
      · have hf := if_T hf h
        refine r_iconst (v := 0) hC dX6_cellsLike_74 rfl ?_
        refine r_iadd hC dX6_cellsLike_75 ?_
        refine r_istore_n (L' := [(2, .int (v2 + 0)), (5, .int (M2 r0 (Int32.toNatClampNeg (8 + x1)))), (0, .ref (Z.1 r0)), (1, .int v1), (3, .int v3), (4, .int v4)]) hC dX6_cellsLike_76 (by decide) rfl ?_
        refine r_iinc (v := v4 + 1) (L' := [(4, .int (v4 + 1)), (2, .int (v2 + 0)), (5, .int (M2 r0 (Int32.toNatClampNeg (8 + x1)))), (0, .ref (Z.1 r0)), (1, .int v1), (3, .int v3)]) hC dX6_cellsLike_77 5 rfl rfl (by decide) rfl ?_
        refine r_goto 15 hC dX6_cellsLike_80 (by decide) ?_
        refine r_L [3, 4, 1, 5, 0] rfl ?_
        exact hk15 _ _ _ hf
      · have hf := if_F hf h
        refine r_iconst (v := 1) hC dX6_cellsLike_70 rfl ?_
        refine r_goto 75 hC dX6_cellsLike_71 (by decide) ?_
        refine r_iadd hC dX6_cellsLike_75 ?_
        refine r_istore_n (L' := [(2, .int (v2 + 1)), (5, .int (M2 r0 (Int32.toNatClampNeg (8 + x1)))), (0, .ref (Z.1 r0)), (1, .int v1), (3, .int v3), (4, .int v4)]) hC dX6_cellsLike_76 (by decide) rfl ?_
        refine r_iinc (v := v4 + 1) (L' := [(4, .int (v4 + 1)), (2, .int (v2 + 1)), (5, .int (M2 r0 (Int32.toNatClampNeg (8 + x1)))), (0, .ref (Z.1 r0)), (1, .int v1), (3, .int v3)]) hC dX6_cellsLike_77 5 rfl rfl (by decide) rfl ?_
        refine r_goto 15 hC dX6_cellsLike_80 (by decide) ?_
        refine r_L [3, 4, 1, 5, 0] rfl ?_
        exact hk15 _ _ _ hf
    · have hf := if_F hf h
      refine r_iload hC dX6_cellsLike_42 0 rfl ?_
      refine r_bipush (v := 99) hC dX6_cellsLike_44 rfl ?_
      refine r_icmp_ne 53 hC dX6_cellsLike_46 (by decide) (fun h => ?_) (fun h => ?_)
      · have hf := if_F hf h
        refine r_iconst (v := 0) hC dX6_cellsLike_53 rfl ?_
        refine r_goto 75 hC dX6_cellsLike_54 (by decide) ?_
        refine r_iadd hC dX6_cellsLike_75 ?_
        refine r_istore_n (L' := [(2, .int (v2 + 0)), (5, .int (M2 r0 (Int32.toNatClampNeg (8 + x1)))), (0, .ref (Z.1 r0)), (1, .int v1), (3, .int v3), (4, .int v4)]) hC dX6_cellsLike_76 (by decide) rfl ?_
        refine r_iinc (v := v4 + 1) (L' := [(4, .int (v4 + 1)), (2, .int (v2 + 0)), (5, .int (M2 r0 (Int32.toNatClampNeg (8 + x1)))), (0, .ref (Z.1 r0)), (1, .int v1), (3, .int v3)]) hC dX6_cellsLike_77 5 rfl rfl (by decide) rfl ?_
        refine r_goto 15 hC dX6_cellsLike_80 (by decide) ?_
        refine r_L [3, 4, 1, 5, 0] rfl ?_
        exact hk15 _ _ _ hf
      · have hf := if_T hf h
        refine r_iconst (v := 1) hC dX6_cellsLike_49 rfl ?_
        refine r_goto 75 hC dX6_cellsLike_50 (by decide) ?_
        refine r_iadd hC dX6_cellsLike_75 ?_
        refine r_istore_n (L' := [(2, .int (v2 + 1)), (5, .int (M2 r0 (Int32.toNatClampNeg (8 + x1)))), (0, .ref (Z.1 r0)), (1, .int v1), (3, .int v3), (4, .int v4)]) hC dX6_cellsLike_76 (by decide) rfl ?_
        refine r_iinc (v := v4 + 1) (L' := [(4, .int (v4 + 1)), (2, .int (v2 + 1)), (5, .int (M2 r0 (Int32.toNatClampNeg (8 + x1)))), (0, .ref (Z.1 r0)), (1, .int v1), (3, .int v3)]) hC dX6_cellsLike_77 5 rfl rfl (by decide) rfl ?_
        refine r_goto 15 hC dX6_cellsLike_80 (by decide) ?_
        refine r_L [3, 4, 1, 5, 0] rfl ?_
        exact hk15 _ _ _ hf
set_option maxRecDepth 20000 in
theorem w_X6_cellsLike_b4 {X : XX} {G : GG} {Z : ZZ} {r : Int32} {M' : Mem} (hC : Cx X G RX6 cX6_cellsLike (some .int) 1 0 0 6) (hz : ZOk G Z) (hZ : ZM Z) (r0 : Nat) (v1 : Int32) (hr0 : ArI r0) (k4 : Int32 → Int32 → Mem → Option (Int32 × Mem)) (hk4 : ∀ (u2 : Int32) (u3 : Int32) (M : Mem), k4 u2 u3 M = some (r, M') → V X G Z M 0 0 (QN X G (QcI G Z r M') 0 0) 4 [(0, .ref (Z.1 r0)), (1, .int v1), (2, .int u2), (3, .int u3)] []) (v2 : Int32) (v3 : Int32) (M : Mem) (hf : f_X6_cellsLike_b4 r0 v1 k4 v2 v3 M = some (r, M')) : V X G Z M 0 0 (QN X G (QcI G Z r M') 0 0) 4 [(0, .ref (Z.1 r0)), (1, .int v1), (2, .int v2), (3, .int v3)] [] := by
  unfold f_X6_cellsLike_b4 at hf
  refine r_iload_n hC dX6_cellsLike_4 3 rfl ?_
  refine r_aload_n hC dX6_cellsLike_5 0 rfl ?_
  refine r_bipush (v := 6) hC dX6_cellsLike_6 rfl ?_
  have hin := if_K hf
  have hf := if_V hf
  refine r_iald hC (z_r hZ hr0) (inb_vp hin) dX6_cellsLike_8 ?_
  refine r_icmp_ge 89 hC dX6_cellsLike_9 (by decide) (fun h => ?_) (fun h => ?_)
  · have hf := if_T hf h
    refine r_iload_n hC dX6_cellsLike_89 2 rfl ?_
    exact r_iret hf hC (by decide) (by decide) dX6_cellsLike_90
  · have hf := if_F hf h
    refine r_iconst (v := 0) hC dX6_cellsLike_12 rfl ?_
    refine r_istore (L' := [(4, .int 0), (0, .ref (Z.1 r0)), (1, .int v1), (2, .int v2), (3, .int v3)]) hC dX6_cellsLike_13 (by decide) rfl ?_
    refine r_L [1, 2, 3, 4, 0] rfl ?_
    exact lq2_ind (P := fun (u2 : Int32) (u4 : Int32) (M : Mem) => V X G Z M 0 0 (QN X G (QcI G Z r M') 0 0) 15 [(0, .ref (Z.1 r0)), (1, .int v1), (2, .int u2), (3, .int v3), (4, .int u4)] []) (fun kk hkk u2 u4 M hf => w_X6_cellsLike_b15 hC hz hZ r0 v1 v3 hr0 k4 hk4 kk hkk u2 u4 M hf) _ _ _ _ hf
set_option maxRecDepth 20000 in
theorem w_X6_cellsLike {X : XX} {G : GG} {Z : ZZ} (hC : Cx X G RX6 cX6_cellsLike (some .int) 1 0 0 6) (hz : ZOk G Z) (hZ : ZM Z) (r0 : Nat) (v1 : Int32) (M : Mem) (hr0 : ArI r0) {r : Int32} {M' : Mem} (hf : f_X6_cellsLike r0 v1 M = some (r, M')) : V X G Z M 0 0 (QN X G (QcI G Z r M') 0 0) 0 [(0, .ref (Z.1 r0)), (1, .int v1)] [] := by
  unfold f_X6_cellsLike at hf
  refine r_iconst (v := 0) hC dX6_cellsLike_0 rfl ?_
  refine r_istore_n (L' := [(2, .int 0), (0, .ref (Z.1 r0)), (1, .int v1)]) hC dX6_cellsLike_1 (by decide) rfl ?_
  refine r_iconst (v := 0) hC dX6_cellsLike_2 rfl ?_
  refine r_istore_n (L' := [(3, .int 0), (2, .int 0), (0, .ref (Z.1 r0)), (1, .int v1)]) hC dX6_cellsLike_3 (by decide) rfl ?_
  refine r_L [2, 3, 1, 0] rfl ?_
  exact lq2_ind (P := fun (u2 : Int32) (u3 : Int32) (M : Mem) => V X G Z M 0 0 (QN X G (QcI G Z r M') 0 0) 4 [(0, .ref (Z.1 r0)), (1, .int v1), (2, .int u2), (3, .int u3)] []) (fun kk hkk u2 u3 M hf => w_X6_cellsLike_b4 hC hz hZ r0 v1 hr0 kk hkk u2 u3 M hf) _ _ _ _ hf
set_option maxRecDepth 20000 in
theorem c_X6_cellsLike {l : Launch} (hl : l.stackTraces = false) {G : GG} {Z : ZZ} (hz : ZOk G Z) (hZ : ZM Z) (r0 : Nat) (v1 : Int32) (M : Mem) (hr0 : ArI r0) (r : Int32) (M' : Mem) (hf : f_X6_cellsLike r0 v1 M = some (r, M')) : CN (QcI G Z r M') l G Z yX6_cellsLike cX6_cellsLike 6 (some .int) 1 [.ref (Z.1 r0), .int v1] M :=
  CN.of [(0, .ref (Z.1 r0)), (1, .int v1)] hl (by decide +kernel) (Nat.le_of_ble_eq_true rfl) rfl (fun _ hC => w_X6_cellsLike hC hz hZ r0 v1 M hr0 hf)
set_option maxRecDepth 20000 in
theorem w_X6_about_b56 {X : XX} {G : GG} {Z : ZZ} {r : Int32} {M' : Mem} (hC : Cx X G RX6 cX6_about (some .int) 2 0 0 2) (hz : ZOk G Z) (hZ : ZM Z) (s0 : Int32) (s1 : Nat) (hs1 : ArI s1) (M : Mem) (hf : f_X6_about_b56 s0 s1 M = some (r, M')) : V X G Z M 0 0 (QN X G (QcI G Z r M') 0 0) 56 [] [.int s0, .ref (Z.1 s1)] := by
  unfold f_X6_about_b56 at hf
  refine r_callSI [] (fun r M1 h => c_X6_cellsLike (cx_st hC) hz hZ s1 s0 _ hs1 r M1 h) hf cs_X6_203 hC  rfl rfl (by decide) (by decide) (Nat.le_of_ble_eq_true rfl) (by decide) (by decide) dX6_about_56 (fun x5 M6 hf => ?_)
  exact r_iret hf hC (by decide) (by decide) dX6_about_59
set_option maxRecDepth 20000 in
theorem w_X6_about_b18 {X : XX} {G : GG} {Z : ZZ} {r : Int32} {M' : Mem} (hC : Cx X G RX6 cX6_about (some .int) 2 0 0 2) (hz : ZOk G Z) (hZ : ZM Z) (v1 : Int32) (s0 : Int32) (M : Mem) (hf : f_X6_about_b18 v1 s0 M = some (r, M')) : V X G Z M 0 0 (QN X G (QcI G Z r M') 0 0) 18 [(0, .ref (Z.1 27)), (1, .int v1)] [.int s0, .ref (Z.1 27)] := by
  unfold f_X6_about_b18 at hf
  refine r_callVI [] (fun r M1 h => c_X6_refused (cx_st hC) hz hZ s0 _  r M1 h) hf cs_X6_169 hC (z_1 hZ 27 (by decide) rfl) (q0 := (RX6, TX6, 19)) rfl rfl [.int s0] rfl rfl rfl (by decide) (by decide) (Nat.le_of_ble_eq_true rfl) (by decide) (by decide) dX6_about_18 (fun x3 M4 hf => ?_)
  refine r_if_eq 26 hC dX6_about_21 (by decide) (fun h => ?_) (fun h => ?_)
  · have hf := if_T hf h
    refine r_iload_n hC dX6_about_26 1 rfl ?_
    refine r_bipush (v := 8) hC dX6_about_27 rfl ?_
    refine r_icmp_ge 41 hC dX6_about_29 (by decide) (fun h => ?_) (fun h => ?_)
    · have hf := if_T hf h
      refine r_aload_n hC dX6_about_41 0 rfl ?_
      refine gf_X6_16 hC (z_1 hZ 27 (by decide) rfl) rfl dX6_about_42 ?_
      refine r_iload_n hC dX6_about_45 1 rfl ?_
      refine r_bipush (v := 9) hC dX6_about_46 rfl ?_
      refine r_icmp_ne 55 hC dX6_about_48 (by decide) (fun h => ?_) (fun h => ?_)
      · have hf := if_F hf h
        refine r_iconst (v := 0) hC dX6_about_55 rfl ?_
        refine r_L [] rfl ?_
        exact w_X6_about_b56 hC hz hZ 0 30 ⟨by decide, rfl⟩ _ hf
      · have hf := if_T hf h
        refine r_iconst (v := 1) hC dX6_about_51 rfl ?_
        refine r_goto 56 hC dX6_about_52 (by decide) ?_
        refine r_L [] rfl ?_
        exact w_X6_about_b56 hC hz hZ 1 30 ⟨by decide, rfl⟩ _ hf
    · have hf := if_F hf h
      refine r_aload_n hC dX6_about_32 0 rfl ?_
      refine gf_X6_16 hC (z_1 hZ 27 (by decide) rfl) rfl dX6_about_33 ?_
      refine r_iload_n hC dX6_about_36 1 rfl ?_
      have hin := if_K hf
      have hf := if_V hf
      refine r_iald hC (z_1 hZ 30 (by decide) rfl) (inb_vp hin) dX6_about_37 ?_
      refine r_goto 59 hC dX6_about_38 (by decide) ?_
      exact r_iret hf hC (by decide) (by decide) dX6_about_59
  · have hf := if_F hf h
    refine r_iconst (v := 0) hC dX6_about_24 rfl ?_
    exact r_iret hf hC (by decide) (by decide) dX6_about_25
set_option maxRecDepth 20000 in
theorem w_X6_about {X : XX} {G : GG} {Z : ZZ} (hC : Cx X G RX6 cX6_about (some .int) 2 0 0 2) (hz : ZOk G Z) (hZ : ZM Z) (v1 : Int32) (M : Mem)  {r : Int32} {M' : Mem} (hf : f_X6_about v1 M = some (r, M')) : V X G Z M 0 0 (QN X G (QcI G Z r M') 0 0) 0 [(0, .ref (Z.1 27)), (1, .int v1)] [] := by
  unfold f_X6_about at hf
  refine r_aload_n hC dX6_about_0 0 rfl ?_
  refine r_iload_n hC dX6_about_1 1 rfl ?_
  refine r_i2l hC dX6_about_2 ?_
  refine r_lconst (v := 0) hC dX6_about_3 rfl ?_
  refine r_ldc2 (v := 9) hC dX6_about_4 kw_X6_201 ?_
  refine r_callSI [.ref (Z.1 27)] (fun r M1 h => c_X6_in (cx_st hC) hz hZ (Int32.toInt64 v1) 0 9 _  r M1 h) hf cs_X6_66 hC  rfl rfl (by decide) (by decide) (Nat.le_of_ble_eq_true rfl) (by decide) (by decide) dX6_about_7 (fun x1 M2 hf => ?_)
  refine r_if_eq 17 hC dX6_about_10 (by decide) (fun h => ?_) (fun h => ?_)
  · have hf := if_T hf h
    refine r_iconst (v := 1) hC dX6_about_17 rfl ?_
    exact w_X6_about_b18 hC hz hZ v1 1 _ hf
  · have hf := if_F hf h
    refine r_iconst (v := 0) hC dX6_about_13 rfl ?_
    refine r_goto 18 hC dX6_about_14 (by decide) ?_
    exact w_X6_about_b18 hC hz hZ v1 0 _ hf
set_option maxRecDepth 20000 in
theorem c_X6_about {l : Launch} (hl : l.stackTraces = false) {G : GG} {Z : ZZ} (hz : ZOk G Z) (hZ : ZM Z) (v1 : Int32) (M : Mem)  (r : Int32) (M' : Mem) (hf : f_X6_about v1 M = some (r, M')) : CN (QcI G Z r M') l G Z yX6_about cX6_about 2 (some .int) 2 [.ref (Z.1 27), .int v1] M :=
  CN.of [(0, .ref (Z.1 27)), (1, .int v1)] hl (by decide +kernel) (Nat.le_of_ble_eq_true rfl) rfl (fun _ hC => w_X6_about hC hz hZ v1 M  hf)
set_option maxRecDepth 20000 in
theorem w_X6_isStaff {X : XX} {G : GG} {Z : ZZ} (hC : Cx X G RX6 cX6_isStaff (some .boolean) 1 0 0 2) (hz : ZOk G Z) (hZ : ZM Z) (r0 : Nat) (v1 : Int32) (M : Mem) (hr0 : ArI r0) {r : Int32} {M' : Mem} (hf : f_X6_isStaff r0 v1 M = some (r, M')) : V X G Z M 0 0 (QN X G (QcI G Z r M') 0 0) 0 [(0, .ref (Z.1 r0)), (1, .int v1)] [] := by
  unfold f_X6_isStaff at hf
  refine r_iload_n hC dX6_isStaff_0 1 rfl ?_
  refine r_i2l hC dX6_isStaff_1 ?_
  refine r_lconst (v := 0) hC dX6_isStaff_2 rfl ?_
  refine r_aload_n hC dX6_isStaff_3 0 rfl ?_
  refine r_bipush (v := 6) hC dX6_isStaff_4 rfl ?_
  have hin := if_K hf
  have hf := if_V hf
  refine r_iald hC (z_r hZ hr0) (inb_vp hin) dX6_isStaff_6 ?_
  refine r_iconst (v := 1) hC dX6_isStaff_7 rfl ?_
  refine r_isub hC dX6_isStaff_8 ?_
  refine r_i2l hC dX6_isStaff_9 ?_
  refine r_callSI [] (fun r M1 h => c_X6_in (cx_st hC) hz hZ (Int32.toInt64 v1) 0 (Int32.toInt64 ((M r0 (Int32.toNatClampNeg 6)) - 1)) _  r M1 h) hf cs_X6_66 hC  rfl rfl (by decide) (by decide) (Nat.le_of_ble_eq_true rfl) (by decide) (by decide) dX6_isStaff_10 (fun x1 M2 hf => ?_)
  have hne := if_K hf
  have hf := if_V hf
  exact r_zret hf hC rfl (nar_bool hne).1 (by decide) (by decide) dX6_isStaff_13
set_option maxRecDepth 20000 in
theorem c_X6_isStaff {l : Launch} (hl : l.stackTraces = false) {G : GG} {Z : ZZ} (hz : ZOk G Z) (hZ : ZM Z) (r0 : Nat) (v1 : Int32) (M : Mem) (hr0 : ArI r0) (r : Int32) (M' : Mem) (hf : f_X6_isStaff r0 v1 M = some (r, M')) : CN (QcI G Z r M') l G Z yX6_isStaff cX6_isStaff 2 (some .boolean) 1 [.ref (Z.1 r0), .int v1] M :=
  CN.of [(0, .ref (Z.1 r0)), (1, .int v1)] hl (by decide +kernel) (Nat.le_of_ble_eq_true rfl) rfl (fun _ hC => w_X6_isStaff hC hz hZ r0 v1 M hr0 hf)
set_option maxRecDepth 20000 in
theorem w_X6_isBeat {X : XX} {G : GG} {Z : ZZ} (hC : Cx X G RX6 cX6_isBeat (some .boolean) 1 0 0 2) (hz : ZOk G Z) (hZ : ZM Z) (r0 : Nat) (v1 : Int32) (M : Mem) (hr0 : ArI r0) {r : Int32} {M' : Mem} (hf : f_X6_isBeat r0 v1 M = some (r, M')) : V X G Z M 0 0 (QN X G (QcI G Z r M') 0 0) 0 [(0, .ref (Z.1 r0)), (1, .int v1)] [] := by
  unfold f_X6_isBeat at hf
  refine r_iload_n hC dX6_isBeat_0 1 rfl ?_
  refine r_i2l hC dX6_isBeat_1 ?_
  refine r_lconst (v := 0) hC dX6_isBeat_2 rfl ?_
  refine r_aload_n hC dX6_isBeat_3 0 rfl ?_
  refine r_bipush (v := 7) hC dX6_isBeat_4 rfl ?_
  have hin := if_K hf
  have hf := if_V hf
  refine r_iald hC (z_r hZ hr0) (inb_vp hin) dX6_isBeat_6 ?_
  refine r_iconst (v := 1) hC dX6_isBeat_7 rfl ?_
  refine r_isub hC dX6_isBeat_8 ?_
  refine r_i2l hC dX6_isBeat_9 ?_
  refine r_callSI [] (fun r M1 h => c_X6_in (cx_st hC) hz hZ (Int32.toInt64 v1) 0 (Int32.toInt64 ((M r0 (Int32.toNatClampNeg 7)) - 1)) _  r M1 h) hf cs_X6_66 hC  rfl rfl (by decide) (by decide) (Nat.le_of_ble_eq_true rfl) (by decide) (by decide) dX6_isBeat_10 (fun x1 M2 hf => ?_)
  have hne := if_K hf
  have hf := if_V hf
  exact r_zret hf hC rfl (nar_bool hne).1 (by decide) (by decide) dX6_isBeat_13
set_option maxRecDepth 20000 in
theorem c_X6_isBeat {l : Launch} (hl : l.stackTraces = false) {G : GG} {Z : ZZ} (hz : ZOk G Z) (hZ : ZM Z) (r0 : Nat) (v1 : Int32) (M : Mem) (hr0 : ArI r0) (r : Int32) (M' : Mem) (hf : f_X6_isBeat r0 v1 M = some (r, M')) : CN (QcI G Z r M') l G Z yX6_isBeat cX6_isBeat 2 (some .boolean) 1 [.ref (Z.1 r0), .int v1] M :=
  CN.of [(0, .ref (Z.1 r0)), (1, .int v1)] hl (by decide +kernel) (Nat.le_of_ble_eq_true rfl) rfl (fun _ hC => w_X6_isBeat hC hz hZ r0 v1 M hr0 hf)
set_option maxRecDepth 20000 in
theorem w_X6_isCell {X : XX} {G : GG} {Z : ZZ} (hC : Cx X G RX6 cX6_isCell (some .boolean) 2 0 0 3) (hz : ZOk G Z) (hZ : ZM Z) (r0 : Nat) (v1 : Int32) (v2 : Int32) (M : Mem) (hr0 : ArI r0) {r : Int32} {M' : Mem} (hf : f_X6_isCell r0 v1 v2 M = some (r, M')) : V X G Z M 0 0 (QN X G (QcI G Z r M') 0 0) 0 [(0, .ref (Z.1 r0)), (1, .int v1), (2, .int v2)] [] := by
  unfold f_X6_isCell at hf
  refine r_aload_n hC dX6_isCell_0 0 rfl ?_
  refine r_iload_n hC dX6_isCell_1 1 rfl ?_
  refine r_callSI [] (fun r M1 h => c_X6_isStaff (cx_st hC) hz hZ r0 v1 _ hr0 r M1 h) hf cs_X6_207 hC  rfl rfl (by decide) (by decide) (Nat.le_of_ble_eq_true rfl) (by decide) (by decide) dX6_isCell_2 (fun x1 M2 hf => ?_)
  refine r_if_eq 20 hC dX6_isCell_5 (by decide) (fun h => ?_) (fun h => ?_)
  · have hf := if_T hf h
    refine r_iconst (v := 0) hC dX6_isCell_20 rfl ?_
    exact r_zret hf hC rfl rfl (by decide) (by decide) dX6_isCell_21
  · have hf := if_F hf h
    refine r_aload_n hC dX6_isCell_8 0 rfl ?_
    refine r_iload_n hC dX6_isCell_9 2 rfl ?_
    refine r_callSI [] (fun r M1 h => c_X6_isBeat (cx_st hC) hz hZ r0 v2 _ hr0 r M1 h) hf cs_X6_211 hC  rfl rfl (by decide) (by decide) (Nat.le_of_ble_eq_true rfl) (by decide) (by decide) dX6_isCell_10 (fun x3 M4 hf => ?_)
    refine r_if_eq 20 hC dX6_isCell_13 (by decide) (fun h => ?_) (fun h => ?_)
    · have hf := if_T hf h
      refine r_iconst (v := 0) hC dX6_isCell_20 rfl ?_
      exact r_zret hf hC rfl rfl (by decide) (by decide) dX6_isCell_21
    · have hf := if_F hf h
      refine r_iconst (v := 1) hC dX6_isCell_16 rfl ?_
      refine r_goto 21 hC dX6_isCell_17 (by decide) ?_
      exact r_zret hf hC rfl rfl (by decide) (by decide) dX6_isCell_21
set_option maxRecDepth 20000 in
theorem c_X6_isCell {l : Launch} (hl : l.stackTraces = false) {G : GG} {Z : ZZ} (hz : ZOk G Z) (hZ : ZM Z) (r0 : Nat) (v1 : Int32) (v2 : Int32) (M : Mem) (hr0 : ArI r0) (r : Int32) (M' : Mem) (hf : f_X6_isCell r0 v1 v2 M = some (r, M')) : CN (QcI G Z r M') l G Z yX6_isCell cX6_isCell 3 (some .boolean) 2 [.ref (Z.1 r0), .int v1, .int v2] M :=
  CN.of [(0, .ref (Z.1 r0)), (1, .int v1), (2, .int v2)] hl (by decide +kernel) (Nat.le_of_ble_eq_true rfl) rfl (fun _ hC => w_X6_isCell hC hz hZ r0 v1 v2 M hr0 hf)
set_option maxRecDepth 20000 in
theorem w_X6_cell_b18 {X : XX} {G : GG} {Z : ZZ} {r : Int32} {M' : Mem} (hC : Cx X G RX6 cX6_cell (some .int) 3 0 0 4) (hz : ZOk G Z) (hZ : ZM Z) (v1 : Int32) (v2 : Int32) (v3 : Int32) (s0 : Int32) (M : Mem) (hf : f_X6_cell_b18 v1 v2 v3 s0 M = some (r, M')) : V X G Z M 0 0 (QN X G (QcI G Z r M') 0 0) 18 [(0, .ref (Z.1 27)), (1, .int v1), (2, .int v2), (3, .int v3)] [.int s0, .ref (Z.1 27)] := by
  unfold f_X6_cell_b18 at hf
  refine r_callVI [] (fun r M1 h => c_X6_refused (cx_st hC) hz hZ s0 _  r M1 h) hf cs_X6_169 hC (z_1 hZ 27 (by decide) rfl) (q0 := (RX6, TX6, 19)) rfl rfl [.int s0] rfl rfl rfl (by decide) (by decide) (Nat.le_of_ble_eq_true rfl) (by decide) (by decide) dX6_cell_18 (fun x3 M4 hf => ?_)
  refine r_if_eq 26 hC dX6_cell_21 (by decide) (fun h => ?_) (fun h => ?_)
  · have hf := if_T hf h
    refine r_aload_n hC dX6_cell_26 0 rfl ?_
    refine r_aload_n hC dX6_cell_27 0 rfl ?_
    refine gf_X6_16 hC (z_1 hZ 27 (by decide) rfl) rfl dX6_cell_28 ?_
    refine r_callVV [] (fun r M1 h => c_X6_laySounds (cx_st hC) hz hZ 30 _ ⟨by decide, rfl⟩ r M1 h) hf cs_X6_135 hC (z_1 hZ 27 (by decide) rfl) (q0 := (RX6, TX6, 19)) rfl rfl [.ref (Z.1 30)] rfl rfl rfl (by decide) (by decide) (Nat.le_of_ble_eq_true rfl) (by decide) (by decide) dX6_cell_31 (fun x5 M6 hf => ?_)
    refine r_iload_n hC dX6_cell_34 3 rfl ?_
    refine r_if_eq 51 hC dX6_cell_35 (by decide) (fun h => ?_) (fun h => ?_)
    · have hf := if_T hf h
      refine r_aload_n hC dX6_cell_51 0 rfl ?_
      refine gf_X6_16 hC (z_1 hZ 27 (by decide) rfl) rfl dX6_cell_52 ?_
      refine r_bipush (v := 8) hC dX6_cell_55 rfl ?_
      refine r_iload_n hC dX6_cell_57 1 rfl ?_
      refine r_iload_n hC dX6_cell_58 2 rfl ?_
      refine r_callSI [.int 8, .ref (Z.1 30)] (fun r M1 h => c_X6_at (cx_st hC) hz hZ v1 v2 _  r M1 h) hf cs_X6_70 hC  rfl rfl (by decide) (by decide) (Nat.le_of_ble_eq_true rfl) (by decide) (by decide) dX6_cell_59 (fun x7 M8 hf => ?_)
      refine r_iadd hC dX6_cell_62 ?_
      have hin := if_K hf
      have hf := if_V hf
      refine r_iald hC (z_1 hZ 30 (by decide) rfl) (inb_vp hin) dX6_cell_63 ?_
      exact r_iret hf hC (by decide) (by decide) dX6_cell_64
    · have hf := if_F hf h
      refine r_aload_n hC dX6_cell_38 0 rfl ?_
      refine gf_X6_35 hC (z_1 hZ 27 (by decide) rfl) rfl dX6_cell_39 ?_
      refine r_iload_n hC dX6_cell_42 1 rfl ?_
      refine r_iload_n hC dX6_cell_43 2 rfl ?_
      refine r_callSI [.ref (Z.1 36)] (fun r M1 h => c_X6_at (cx_st hC) hz hZ v1 v2 _  r M1 h) hf cs_X6_70 hC  rfl rfl (by decide) (by decide) (Nat.le_of_ble_eq_true rfl) (by decide) (by decide) dX6_cell_44 (fun x9 M10 hf => ?_)
      have hin := if_K hf
      have hf := if_V hf
      refine r_iald hC (z_1 hZ 36 (by decide) rfl) (inb_vp hin) dX6_cell_47 ?_
      refine r_goto 64 hC dX6_cell_48 (by decide) ?_
      exact r_iret hf hC (by decide) (by decide) dX6_cell_64
  · have hf := if_F hf h
    refine r_iconst (v := 0) hC dX6_cell_24 rfl ?_
    exact r_iret hf hC (by decide) (by decide) dX6_cell_25
set_option maxRecDepth 20000 in
theorem w_X6_cell {X : XX} {G : GG} {Z : ZZ} (hC : Cx X G RX6 cX6_cell (some .int) 3 0 0 4) (hz : ZOk G Z) (hZ : ZM Z) (v1 : Int32) (v2 : Int32) (v3 : Int32) (M : Mem)  {r : Int32} {M' : Mem} (hf : f_X6_cell v1 v2 v3 M = some (r, M')) : V X G Z M 0 0 (QN X G (QcI G Z r M') 0 0) 0 [(0, .ref (Z.1 27)), (1, .int v1), (2, .int v2), (3, .int v3)] [] := by
  unfold f_X6_cell at hf
  refine r_aload_n hC dX6_cell_0 0 rfl ?_
  refine r_aload_n hC dX6_cell_1 0 rfl ?_
  refine gf_X6_16 hC (z_1 hZ 27 (by decide) rfl) rfl dX6_cell_2 ?_
  refine r_iload_n hC dX6_cell_5 1 rfl ?_
  refine r_iload_n hC dX6_cell_6 2 rfl ?_
  refine r_callSI [.ref (Z.1 27)] (fun r M1 h => c_X6_isCell (cx_st hC) hz hZ 30 v1 v2 _ ⟨by decide, rfl⟩ r M1 h) hf cs_X6_214 hC  rfl rfl (by decide) (by decide) (Nat.le_of_ble_eq_true rfl) (by decide) (by decide) dX6_cell_7 (fun x1 M2 hf => ?_)
  refine r_if_eq 17 hC dX6_cell_10 (by decide) (fun h => ?_) (fun h => ?_)
  · have hf := if_T hf h
    refine r_iconst (v := 1) hC dX6_cell_17 rfl ?_
    exact w_X6_cell_b18 hC hz hZ v1 v2 v3 1 _ hf
  · have hf := if_F hf h
    refine r_iconst (v := 0) hC dX6_cell_13 rfl ?_
    refine r_goto 18 hC dX6_cell_14 (by decide) ?_
    exact w_X6_cell_b18 hC hz hZ v1 v2 v3 0 _ hf
set_option maxRecDepth 20000 in
theorem c_X6_cell {l : Launch} (hl : l.stackTraces = false) {G : GG} {Z : ZZ} (hz : ZOk G Z) (hZ : ZM Z) (v1 : Int32) (v2 : Int32) (v3 : Int32) (M : Mem)  (r : Int32) (M' : Mem) (hf : f_X6_cell v1 v2 v3 M = some (r, M')) : CN (QcI G Z r M') l G Z yX6_cell cX6_cell 4 (some .int) 3 [.ref (Z.1 27), .int v1, .int v2, .int v3] M :=
  CN.of [(0, .ref (Z.1 27)), (1, .int v1), (2, .int v2), (3, .int v3)] hl (by decide +kernel) (Nat.le_of_ble_eq_true rfl) rfl (fun _ hC => w_X6_cell hC hz hZ v1 v2 v3 M  hf)
set_option maxRecDepth 20000 in
theorem w_X6_remember_b49 {X : XX} {G : GG} {Z : ZZ} {r : Unit} {M' : Mem} (hC : Cx X G RX6 cX6_remember none 1 0 0 2) (hz : ZOk G Z) (hZ : ZM Z)  (M : Mem) (hf : f_X6_remember_b49  M = some (r, M')) : V X G Z M 0 0 (QN X G (QcV G Z r M') 0 0) 49 [(0, .ref (Z.1 27))] [] := by
  unfold f_X6_remember_b49 at hf
  refine r_aload_n hC dX6_remember_49 0 rfl ?_
  refine gf_X6_16 hC (z_1 hZ 27 (by decide) rfl) rfl dX6_remember_50 ?_
  refine r_iconst (v := 0) hC dX6_remember_53 rfl ?_
  refine r_aload_n hC dX6_remember_54 0 rfl ?_
  refine gf_X6_25 hC (z_1 hZ 27 (by decide) rfl) rfl dX6_remember_55 ?_
  refine r_bipush (v := 72) hC dX6_remember_58 rfl ?_
  refine r_aload_n hC dX6_remember_60 0 rfl ?_
  refine gf_X6_196 hC (z_1 hZ 27 (by decide) rfl) rfl dX6_remember_61 ?_
  refine r_imul hC dX6_remember_64 ?_
  refine r_callSV [] (fun r M1 h => c_X6_copyPage (cx_st hC) hz hZ 30 0 33 (72 * (M 27 9)) _ ⟨by decide, rfl⟩ ⟨by decide, rfl⟩ r M1 h) hf cs_X6_192 hC  rfl rfl (by decide) (by decide) (Nat.le_of_ble_eq_true rfl) (by decide) (by decide) dX6_remember_65 (fun x1 M2 hf => ?_)
  refine r_aload_n hC dX6_remember_68 0 rfl ?_
  refine r_dup hC dX6_remember_69 rfl ?_
  refine gf_X6_196 hC (z_1 hZ 27 (by decide) rfl) rfl dX6_remember_70 ?_
  refine r_iconst (v := 1) hC dX6_remember_73 rfl ?_
  refine r_iadd hC dX6_remember_74 ?_
  refine pf_X6_196 hC hz (z_1 hZ 27 (by decide) rfl) rfl dX6_remember_75 ?_
  exact r_vret hf hC (by decide) (by decide) dX6_remember_78
set_option maxRecDepth 20000 in
theorem w_X6_remember_b39 {X : XX} {G : GG} {Z : ZZ} {r : Unit} {M' : Mem} (hC : Cx X G RX6 cX6_remember none 1 0 0 2) (hz : ZOk G Z) (hZ : ZM Z)  (M : Mem) (hf : f_X6_remember_b39  M = some (r, M')) : V X G Z M 0 0 (QN X G (QcV G Z r M') 0 0) 39 [(0, .ref (Z.1 27))] [] := by
  unfold f_X6_remember_b39 at hf
  refine r_aload_n hC dX6_remember_39 0 rfl ?_
  refine r_dup hC dX6_remember_40 rfl ?_
  refine gf_X6_196 hC (z_1 hZ 27 (by decide) rfl) rfl dX6_remember_41 ?_
  refine r_iconst (v := 1) hC dX6_remember_44 rfl ?_
  refine r_isub hC dX6_remember_45 ?_
  refine pf_X6_196 hC hz (z_1 hZ 27 (by decide) rfl) rfl dX6_remember_46 ?_
  exact w_X6_remember_b49 hC hz hZ  _ hf
set_option maxRecDepth 20000 in
theorem w_X6_remember_b11 {X : XX} {G : GG} {Z : ZZ} {r : Unit} {M' : Mem} (hC : Cx X G RX6 cX6_remember none 1 0 0 2) (hz : ZOk G Z) (hZ : ZM Z) (k11 : Int32 → Mem → Option (Unit × Mem)) (hk11 : ∀ (u1 : Int32) (M : Mem), k11 u1 M = some (r, M') → V X G Z M 0 0 (QN X G (QcV G Z r M') 0 0) 11 [(0, .ref (Z.1 27)), (1, .int u1)] []) (v1 : Int32) (M : Mem) (hf : f_X6_remember_b11 k11 v1 M = some (r, M')) : V X G Z M 0 0 (QN X G (QcV G Z r M') 0 0) 11 [(0, .ref (Z.1 27)), (1, .int v1)] [] := by
  unfold f_X6_remember_b11 at hf
  refine r_iload_n hC dX6_remember_11 1 rfl ?_
  refine r_sipush (v := 936) hC dX6_remember_12 rfl ?_
  refine r_icmp_ge 39 hC dX6_remember_15 (by decide) (fun h => ?_) (fun h => ?_)
  · have hf := if_T hf h
    refine r_L [0] rfl ?_
    exact w_X6_remember_b39 hC hz hZ  _ hf
  · have hf := if_F hf h
    refine r_aload_n hC dX6_remember_18 0 rfl ?_
    refine gf_X6_25 hC (z_1 hZ 27 (by decide) rfl) rfl dX6_remember_19 ?_
    refine r_iload_n hC dX6_remember_22 1 rfl ?_
    refine r_aload_n hC dX6_remember_23 0 rfl ?_
    refine gf_X6_25 hC (z_1 hZ 27 (by decide) rfl) rfl dX6_remember_24 ?_
    refine r_iload_n hC dX6_remember_27 1 rfl ?_
    refine r_bipush (v := 72) hC dX6_remember_28 rfl ?_
    refine r_iadd hC dX6_remember_30 ?_
    have hin := if_K hf
    have hf := if_V hf
    refine r_iald hC (z_1 hZ 33 (by decide) rfl) (inb_vp hin) dX6_remember_31 ?_
    have hin := if_K hf
    have hf := if_V hf
    refine r_iast hC hz (z_1 hZ 33 (by decide) rfl) (inb_vp hin) dX6_remember_32 ?_
    refine r_iinc (v := v1 + 1) (L' := [(1, .int (v1 + 1)), (0, .ref (Z.1 27))]) hC dX6_remember_33 1 rfl rfl (by decide) rfl ?_
    refine r_goto 11 hC dX6_remember_36 (by decide) ?_
    refine r_L [1, 0] rfl ?_
    exact hk11 _ _ hf
set_option maxRecDepth 20000 in
theorem w_X6_remember {X : XX} {G : GG} {Z : ZZ} (hC : Cx X G RX6 cX6_remember none 1 0 0 2) (hz : ZOk G Z) (hZ : ZM Z)  (M : Mem)  {r : Unit} {M' : Mem} (hf : f_X6_remember  M = some (r, M')) : V X G Z M 0 0 (QN X G (QcV G Z r M') 0 0) 0 [(0, .ref (Z.1 27))] [] := by
  unfold f_X6_remember at hf
  refine r_aload_n hC dX6_remember_0 0 rfl ?_
  refine gf_X6_196 hC (z_1 hZ 27 (by decide) rfl) rfl dX6_remember_1 ?_
  refine r_bipush (v := 14) hC dX6_remember_4 rfl ?_
  refine r_icmp_ne 49 hC dX6_remember_6 (by decide) (fun h => ?_) (fun h => ?_)
  · have hf := if_F hf h
    exact w_X6_remember_b49 hC hz hZ  _ hf
  · have hf := if_T hf h
    refine r_iconst (v := 0) hC dX6_remember_9 rfl ?_
    refine r_istore_n (L' := [(1, .int 0), (0, .ref (Z.1 27))]) hC dX6_remember_10 (by decide) rfl ?_
    refine r_L [1, 0] rfl ?_
    exact lq1_ind (P := fun (u1 : Int32) (M : Mem) => V X G Z M 0 0 (QN X G (QcV G Z r M') 0 0) 11 [(0, .ref (Z.1 27)), (1, .int u1)] []) (fun kk hkk u1 M hf => w_X6_remember_b11 hC hz hZ  kk hkk u1 M hf) _ _ _ hf
set_option maxRecDepth 20000 in
theorem c_X6_remember {l : Launch} (hl : l.stackTraces = false) {G : GG} {Z : ZZ} (hz : ZOk G Z) (hZ : ZM Z)  (M : Mem)  (r : Unit) (M' : Mem) (hf : f_X6_remember  M = some (r, M')) : CN (QcV G Z r M') l G Z yX6_remember cX6_remember 2 none 1 [.ref (Z.1 27)] M :=
  CN.of [(0, .ref (Z.1 27))] hl (by decide +kernel) (Nat.le_of_ble_eq_true rfl) rfl (fun _ hC => w_X6_remember hC hz hZ  M  hf)
set_option maxRecDepth 20000 in
theorem w_X6_set_b14 {X : XX} {G : GG} {Z : ZZ} {r : Int32} {M' : Mem} (hC : Cx X G RX6 cX6_set (some .int) 2 0 0 4) (hz : ZOk G Z) (hZ : ZM Z) (v1 : Int32) (v2 : Int32) (s0 : Int32) (M : Mem) (hf : f_X6_set_b14 v1 v2 s0 M = some (r, M')) : V X G Z M 0 0 (QN X G (QcI G Z r M') 0 0) 14 [(0, .ref (Z.1 27)), (1, .int v1), (2, .int v2)] [.int s0, .ref (Z.1 27)] := by
  unfold f_X6_set_b14 at hf
  refine r_callVI [] (fun r M1 h => c_X6_refused (cx_st hC) hz hZ s0 _  r M1 h) hf cs_X6_169 hC (z_1 hZ 27 (by decide) rfl) (q0 := (RX6, TX6, 19)) rfl rfl [.int s0] rfl rfl rfl (by decide) (by decide) (Nat.le_of_ble_eq_true rfl) (by decide) (by decide) dX6_set_14 (fun x3 M4 hf => ?_)
  refine r_if_eq 22 hC dX6_set_17 (by decide) (fun h => ?_) (fun h => ?_)
  · have hf := if_T hf h
    refine r_aload_n hC dX6_set_22 0 rfl ?_
    refine r_callVV [] (fun r M1 h => c_X6_remember (cx_st hC) hz hZ  _  r M1 h) hf cs_X6_220 hC (z_1 hZ 27 (by decide) rfl) (q0 := (RX6, TX6, 19)) rfl rfl [] rfl rfl rfl (by decide) (by decide) (Nat.le_of_ble_eq_true rfl) (by decide) (by decide) dX6_set_23 (fun x5 M6 hf => ?_)
    refine r_aload_n hC dX6_set_26 0 rfl ?_
    refine gf_X6_16 hC (z_1 hZ 27 (by decide) rfl) rfl dX6_set_27 ?_
    refine r_iload_n hC dX6_set_30 1 rfl ?_
    have hin := if_K hf
    have hf := if_V hf
    refine r_iald hC (z_1 hZ 30 (by decide) rfl) (inb_vp hin) dX6_set_31 ?_
    refine r_istore_n (L' := [(3, .int (M6 30 (Int32.toNatClampNeg v1))), (0, .ref (Z.1 27)), (1, .int v1), (2, .int v2)]) hC dX6_set_32 (by decide) rfl ?_
    refine r_aload_n hC dX6_set_33 1 rfl ?_
    refine gf_X6_16 hC (z_1 hZ 27 (by decide) rfl) rfl dX6_set_34 ?_
    refine r_iload_n hC dX6_set_37 2 rfl ?_
    refine r_iload_n hC dX6_set_38 3 rfl ?_
    have hin := if_K hf
    have hf := if_V hf
    refine r_iast hC hz (z_1 hZ 30 (by decide) rfl) (inb_vp hin) dX6_set_39 ?_
    refine r_iload_n hC dX6_set_40 0 rfl ?_
    exact r_iret hf hC (by decide) (by decide) dX6_set_41
  · have hf := if_F hf h
    refine r_iconst (v := 0) hC dX6_set_20 rfl ?_
    exact r_iret hf hC (by decide) (by decide) dX6_set_21
set_option maxRecDepth 20000 in
theorem w_X6_set {X : XX} {G : GG} {Z : ZZ} (hC : Cx X G RX6 cX6_set (some .int) 2 0 0 4) (hz : ZOk G Z) (hZ : ZM Z) (v1 : Int32) (v2 : Int32) (M : Mem)  {r : Int32} {M' : Mem} (hf : f_X6_set v1 v2 M = some (r, M')) : V X G Z M 0 0 (QN X G (QcI G Z r M') 0 0) 0 [(0, .ref (Z.1 27)), (1, .int v1), (2, .int v2)] [] := by
  unfold f_X6_set at hf
  refine r_aload_n hC dX6_set_0 0 rfl ?_
  refine r_iload_n hC dX6_set_1 1 rfl ?_
  refine r_iload_n hC dX6_set_2 2 rfl ?_
  refine r_callSI [.ref (Z.1 27)] (fun r M1 h => c_X6_isSetting (cx_st hC) hz hZ v1 v2 _  r M1 h) hf cs_X6_217 hC  rfl rfl (by decide) (by decide) (Nat.le_of_ble_eq_true rfl) (by decide) (by decide) dX6_set_3 (fun x1 M2 hf => ?_)
  refine r_if_eq 13 hC dX6_set_6 (by decide) (fun h => ?_) (fun h => ?_)
  · have hf := if_T hf h
    refine r_iconst (v := 1) hC dX6_set_13 rfl ?_
    exact w_X6_set_b14 hC hz hZ v1 v2 1 _ hf
  · have hf := if_F hf h
    refine r_iconst (v := 0) hC dX6_set_9 rfl ?_
    refine r_goto 14 hC dX6_set_10 (by decide) ?_
    exact w_X6_set_b14 hC hz hZ v1 v2 0 _ hf
set_option maxRecDepth 20000 in
theorem c_X6_set {l : Launch} (hl : l.stackTraces = false) {G : GG} {Z : ZZ} (hz : ZOk G Z) (hZ : ZM Z) (v1 : Int32) (v2 : Int32) (M : Mem)  (r : Int32) (M' : Mem) (hf : f_X6_set v1 v2 M = some (r, M')) : CN (QcI G Z r M') l G Z yX6_set cX6_set 4 (some .int) 2 [.ref (Z.1 27), .int v1, .int v2] M :=
  CN.of [(0, .ref (Z.1 27)), (1, .int v1), (2, .int v2)] hl (by decide +kernel) (Nat.le_of_ble_eq_true rfl) rfl (fun _ hC => w_X6_set hC hz hZ v1 v2 M  hf)
set_option maxRecDepth 20000 in
theorem w_X6_canWrite_b27 {X : XX} {G : GG} {Z : ZZ} {r : Int32} {M' : Mem} (hC : Cx X G RX6 cX6_canWrite (some .boolean) 1 0 0 4) (hz : ZOk G Z) (hZ : ZM Z)  (M : Mem) (hf : f_X6_canWrite_b27  M = some (r, M')) : V X G Z M 0 0 (QN X G (QcI G Z r M') 0 0) 27 [] [] := by
  unfold f_X6_canWrite_b27 at hf
  refine r_iconst (v := 1) hC dX6_canWrite_27 rfl ?_
  refine r_goto 32 hC dX6_canWrite_28 (by decide) ?_
  exact r_zret hf hC rfl rfl (by decide) (by decide) dX6_canWrite_32
set_option maxRecDepth 20000 in
theorem w_X6_canWrite {X : XX} {G : GG} {Z : ZZ} (hC : Cx X G RX6 cX6_canWrite (some .boolean) 1 0 0 4) (hz : ZOk G Z) (hZ : ZM Z) (r0 : Nat) (v1 : Int32) (v2 : Int32) (v3 : Int32) (M : Mem) (hr0 : ArI r0) {r : Int32} {M' : Mem} (hf : f_X6_canWrite r0 v1 v2 v3 M = some (r, M')) : V X G Z M 0 0 (QN X G (QcI G Z r M') 0 0) 0 [(0, .ref (Z.1 r0)), (1, .int v1), (2, .int v2), (3, .int v3)] [] := by
  unfold f_X6_canWrite at hf
  refine r_iload_n hC dX6_canWrite_0 3 rfl ?_
  refine r_bipush (v := 99) hC dX6_canWrite_1 rfl ?_
  refine r_icmp_ne 27 hC dX6_canWrite_3 (by decide) (fun h => ?_) (fun h => ?_)
  · have hf := if_F hf h
    refine r_L [] rfl ?_
    exact w_X6_canWrite_b27 hC hz hZ  _ hf
  · have hf := if_T hf h
    refine r_iload_n hC dX6_canWrite_6 2 rfl ?_
    refine r_if_le 31 hC dX6_canWrite_7 (by decide) (fun h => ?_) (fun h => ?_)
    · have hf := if_T hf h
      refine r_iconst (v := 0) hC dX6_canWrite_31 rfl ?_
      exact r_zret hf hC rfl rfl (by decide) (by decide) dX6_canWrite_32
    · have hf := if_F hf h
      refine r_aload_n hC dX6_canWrite_10 0 rfl ?_
      refine r_bipush (v := 8) hC dX6_canWrite_11 rfl ?_
      refine r_iload_n hC dX6_canWrite_13 1 rfl ?_
      refine r_iload_n hC dX6_canWrite_14 2 rfl ?_
      refine r_callSI [.int 8, .ref (Z.1 r0)] (fun r M1 h => c_X6_at (cx_st hC) hz hZ v1 v2 _  r M1 h) hf cs_X6_70 hC  rfl rfl (by decide) (by decide) (Nat.le_of_ble_eq_true rfl) (by decide) (by decide) dX6_canWrite_15 (fun x1 M2 hf => ?_)
      refine r_iadd hC dX6_canWrite_18 ?_
      refine r_iconst (v := 1) hC dX6_canWrite_19 rfl ?_
      refine r_isub hC dX6_canWrite_20 ?_
      have hin := if_K hf
      have hf := if_V hf
      refine r_iald hC (z_r hZ hr0) (inb_vp hin) dX6_canWrite_21 ?_
      refine r_bipush (v := (-9)) hC dX6_canWrite_22 rfl ?_
      refine r_icmp_eq 31 hC dX6_canWrite_24 (by decide) (fun h => ?_) (fun h => ?_)
      · have hf := if_T hf h
        refine r_iconst (v := 0) hC dX6_canWrite_31 rfl ?_
        exact r_zret hf hC rfl rfl (by decide) (by decide) dX6_canWrite_32
      · have hf := if_F hf h
        refine r_L [] rfl ?_
        exact w_X6_canWrite_b27 hC hz hZ  _ hf
set_option maxRecDepth 20000 in
theorem c_X6_canWrite {l : Launch} (hl : l.stackTraces = false) {G : GG} {Z : ZZ} (hz : ZOk G Z) (hZ : ZM Z) (r0 : Nat) (v1 : Int32) (v2 : Int32) (v3 : Int32) (M : Mem) (hr0 : ArI r0) (r : Int32) (M' : Mem) (hf : f_X6_canWrite r0 v1 v2 v3 M = some (r, M')) : CN (QcI G Z r M') l G Z yX6_canWrite cX6_canWrite 4 (some .boolean) 1 [.ref (Z.1 r0), .int v1, .int v2, .int v3] M :=
  CN.of [(0, .ref (Z.1 r0)), (1, .int v1), (2, .int v2), (3, .int v3)] hl (by decide +kernel) (Nat.le_of_ble_eq_true rfl) rfl (fun _ hC => w_X6_canWrite hC hz hZ r0 v1 v2 v3 M hr0 hf)
set_option maxRecDepth 20000 in
theorem w_X6_put_b19 {X : XX} {G : GG} {Z : ZZ} {r : Unit} {M' : Mem} (hC : Cx X G RX6 cX6_put none 2 0 0 4) (hz : ZOk G Z) (hZ : ZM Z) (r0 : Nat) (hr0 : ArI r0) (s0 : Int32) (s1 : Int32) (s2 : Nat) (hs2 : ArI s2) (M : Mem) (hf : f_X6_put_b19 r0 s0 s1 s2 M = some (r, M')) : V X G Z M 0 0 (QN X G (QcV G Z r M') 0 0) 19 [(0, .ref (Z.1 r0))] [.int s0, .int s1, .ref (Z.1 s2)] := by
  unfold f_X6_put_b19 at hf
  have hin := if_K hf
  have hf := if_V hf
  refine r_iast hC hz (z_r hZ hs2) (inb_vp hin) dX6_put_19 ?_
  refine r_aload_n hC dX6_put_20 0 rfl ?_
  refine r_callSV [] (fun r M1 h => c_X6_mend (cx_st hC) hz hZ r0 _ hr0 r M1 h) hf cs_X6_223 hC  rfl rfl (by decide) (by decide) (Nat.le_of_ble_eq_true rfl) (by decide) (by decide) dX6_put_21 (fun x3 M4 hf => ?_)
  exact r_vret hf hC (by decide) (by decide) dX6_put_24
set_option maxRecDepth 20000 in
theorem w_X6_put {X : XX} {G : GG} {Z : ZZ} (hC : Cx X G RX6 cX6_put none 2 0 0 4) (hz : ZOk G Z) (hZ : ZM Z) (r0 : Nat) (v1 : Int32) (v2 : Int32) (v3 : Int32) (M : Mem) (hr0 : ArI r0) {r : Unit} {M' : Mem} (hf : f_X6_put r0 v1 v2 v3 M = some (r, M')) : V X G Z M 0 0 (QN X G (QcV G Z r M') 0 0) 0 [(0, .ref (Z.1 r0)), (1, .int v1), (2, .int v2), (3, .int v3)] [] := by
  unfold f_X6_put at hf
  refine r_aload_n hC dX6_put_0 0 rfl ?_
  refine r_bipush (v := 8) hC dX6_put_1 rfl ?_
  refine r_iload_n hC dX6_put_3 1 rfl ?_
  refine r_iload_n hC dX6_put_4 2 rfl ?_
  refine r_callSI [.int 8, .ref (Z.1 r0)] (fun r M1 h => c_X6_at (cx_st hC) hz hZ v1 v2 _  r M1 h) hf cs_X6_70 hC  rfl rfl (by decide) (by decide) (Nat.le_of_ble_eq_true rfl) (by decide) (by decide) dX6_put_5 (fun x1 M2 hf => ?_)
  refine r_iadd hC dX6_put_8 ?_
  refine r_iload_n hC dX6_put_9 3 rfl ?_
  refine r_if_ge 18 hC dX6_put_10 (by decide) (fun h => ?_) (fun h => ?_)
  · have hf := if_T hf h
    refine r_iload_n hC dX6_put_18 3 rfl ?_
    refine r_L [0] rfl ?_
    exact w_X6_put_b19 hC hz hZ r0 hr0 v3 (8 + x1) r0 hr0 _ hf
  · have hf := if_F hf h
    refine r_bipush (v := (-9)) hC dX6_put_13 rfl ?_
    refine r_goto 19 hC dX6_put_15 (by decide) ?_
    refine r_L [0] rfl ?_
    exact w_X6_put_b19 hC hz hZ r0 hr0 (-9) (8 + x1) r0 hr0 _ hf
set_option maxRecDepth 20000 in
theorem c_X6_put {l : Launch} (hl : l.stackTraces = false) {G : GG} {Z : ZZ} (hz : ZOk G Z) (hZ : ZM Z) (r0 : Nat) (v1 : Int32) (v2 : Int32) (v3 : Int32) (M : Mem) (hr0 : ArI r0) (r : Unit) (M' : Mem) (hf : f_X6_put r0 v1 v2 v3 M = some (r, M')) : CN (QcV G Z r M') l G Z yX6_put cX6_put 4 none 2 [.ref (Z.1 r0), .int v1, .int v2, .int v3] M :=
  CN.of [(0, .ref (Z.1 r0)), (1, .int v1), (2, .int v2), (3, .int v3)] hl (by decide +kernel) (Nat.le_of_ble_eq_true rfl) rfl (fun _ hC => w_X6_put hC hz hZ r0 v1 v2 v3 M hr0 hf)
set_option maxRecDepth 20000 in
theorem w_X6_write_b63 {X : XX} {G : GG} {Z : ZZ} {r : Int32} {M' : Mem} (hC : Cx X G RX6 cX6_write (some .int) 3 0 0 6) (hz : ZOk G Z) (hZ : ZM Z) (v1 : Int32) (v2 : Int32) (v3 : Int32) (s0 : Int32) (M : Mem) (hf : f_X6_write_b63 v1 v2 v3 s0 M = some (r, M')) : V X G Z M 0 0 (QN X G (QcI G Z r M') 0 0) 63 [(0, .ref (Z.1 27)), (1, .int v1), (2, .int v2), (3, .int v3)] [.int s0, .ref (Z.1 27)] := by
  unfold f_X6_write_b63 at hf
  refine r_callVI [] (fun r M1 h => c_X6_refused (cx_st hC) hz hZ s0 _  r M1 h) hf cs_X6_169 hC (z_1 hZ 27 (by decide) rfl) (q0 := (RX6, TX6, 19)) rfl rfl [.int s0] rfl rfl rfl (by decide) (by decide) (Nat.le_of_ble_eq_true rfl) (by decide) (by decide) dX6_write_63 (fun x7 M8 hf => ?_)
  refine r_if_eq 71 hC dX6_write_66 (by decide) (fun h => ?_) (fun h => ?_)
  · have hf := if_T hf h
    refine r_aload_n hC dX6_write_71 0 rfl ?_
    refine r_callVV [] (fun r M1 h => c_X6_remember (cx_st hC) hz hZ  _  r M1 h) hf cs_X6_220 hC (z_1 hZ 27 (by decide) rfl) (q0 := (RX6, TX6, 19)) rfl rfl [] rfl rfl rfl (by decide) (by decide) (Nat.le_of_ble_eq_true rfl) (by decide) (by decide) dX6_write_72 (fun x9 M10 hf => ?_)
    refine r_aload_n hC dX6_write_75 0 rfl ?_
    refine gf_X6_16 hC (z_1 hZ 27 (by decide) rfl) rfl dX6_write_76 ?_
    refine r_bipush (v := 8) hC dX6_write_79 rfl ?_
    refine r_iload_n hC dX6_write_81 1 rfl ?_
    refine r_iload_n hC dX6_write_82 2 rfl ?_
    refine r_callSI [.int 8, .ref (Z.1 30)] (fun r M1 h => c_X6_at (cx_st hC) hz hZ v1 v2 _  r M1 h) hf cs_X6_70 hC  rfl rfl (by decide) (by decide) (Nat.le_of_ble_eq_true rfl) (by decide) (by decide) dX6_write_83 (fun x11 M12 hf => ?_)
    refine r_iadd hC dX6_write_86 ?_
    have hin := if_K hf
    have hf := if_V hf
    refine r_iald hC (z_1 hZ 30 (by decide) rfl) (inb_vp hin) dX6_write_87 ?_
    refine r_istore (L' := [(5, .int (M12 30 (Int32.toNatClampNeg (8 + x11)))), (0, .ref (Z.1 27)), (1, .int v1), (2, .int v2), (3, .int v3)]) hC dX6_write_88 (by decide) rfl ?_
    refine r_aload_n hC dX6_write_90 1 rfl ?_
    refine gf_X6_16 hC (z_1 hZ 27 (by decide) rfl) rfl dX6_write_91 ?_
    refine r_iload_n hC dX6_write_94 2 rfl ?_
    refine r_iload_n hC dX6_write_95 3 rfl ?_
    refine r_iload_n hC dX6_write_96 4 rfl ?_
    refine r_callSV [] (fun r M1 h => c_X6_put (cx_st hC) hz hZ 30 v1 v2 v3 _ ⟨by decide, rfl⟩ r M1 h) hf cs_X6_231 hC  rfl rfl (by decide) (by decide) (Nat.le_of_ble_eq_true rfl) (by decide) (by decide) dX6_write_97 (fun x13 M14 hf => ?_)
    refine r_iload hC dX6_write_100 0 rfl ?_
    exact r_iret hf hC (by decide) (by decide) dX6_write_102
  · have hf := if_F hf h
    refine r_iconst (v := 0) hC dX6_write_69 rfl ?_
    exact r_iret hf hC (by decide) (by decide) dX6_write_70
set_option maxRecDepth 20000 in
theorem w_X6_write_b45 {X : XX} {G : GG} {Z : ZZ} {r : Int32} {M' : Mem} (hC : Cx X G RX6 cX6_write (some .int) 3 0 0 6) (hz : ZOk G Z) (hZ : ZM Z) (v1 : Int32) (v2 : Int32) (v3 : Int32) (M : Mem) (hf : f_X6_write_b45 v1 v2 v3 M = some (r, M')) : V X G Z M 0 0 (QN X G (QcI G Z r M') 0 0) 45 [(0, .ref (Z.1 27)), (1, .int v1), (2, .int v2), (3, .int v3)] [.ref (Z.1 27)] := by
  unfold f_X6_write_b45 at hf
  refine r_aload_n hC dX6_write_45 0 rfl ?_
  refine gf_X6_16 hC (z_1 hZ 27 (by decide) rfl) rfl dX6_write_46 ?_
  refine r_iload_n hC dX6_write_49 1 rfl ?_
  refine r_iload_n hC dX6_write_50 2 rfl ?_
  refine r_iload_n hC dX6_write_51 3 rfl ?_
  refine r_callSI [.ref (Z.1 27)] (fun r M1 h => c_X6_canWrite (cx_st hC) hz hZ 30 v1 v2 v3 _ ⟨by decide, rfl⟩ r M1 h) hf cs_X6_228 hC  rfl rfl (by decide) (by decide) (Nat.le_of_ble_eq_true rfl) (by decide) (by decide) dX6_write_52 (fun x5 M6 hf => ?_)
  refine r_if_ne 62 hC dX6_write_55 (by decide) (fun h => ?_) (fun h => ?_)
  · have hf := if_F hf h
    refine r_iconst (v := 0) hC dX6_write_62 rfl ?_
    exact w_X6_write_b63 hC hz hZ v1 v2 v3 0 _ hf
  · have hf := if_T hf h
    refine r_iconst (v := 3) hC dX6_write_58 rfl ?_
    refine r_goto 63 hC dX6_write_59 (by decide) ?_
    exact w_X6_write_b63 hC hz hZ v1 v2 v3 3 _ hf
set_option maxRecDepth 20000 in
theorem w_X6_write {X : XX} {G : GG} {Z : ZZ} (hC : Cx X G RX6 cX6_write (some .int) 3 0 0 6) (hz : ZOk G Z) (hZ : ZM Z) (v1 : Int32) (v2 : Int32) (v3 : Int32) (M : Mem)  {r : Int32} {M' : Mem} (hf : f_X6_write v1 v2 v3 M = some (r, M')) : V X G Z M 0 0 (QN X G (QcI G Z r M') 0 0) 0 [(0, .ref (Z.1 27)), (1, .int v1), (2, .int v2), (3, .int v3)] [] := by
  unfold f_X6_write at hf
  refine r_aload_n hC dX6_write_0 0 rfl ?_
  refine gf_X6_16 hC (z_1 hZ 27 (by decide) rfl) rfl dX6_write_1 ?_
  refine r_iload_n hC dX6_write_4 1 rfl ?_
  refine r_iload_n hC dX6_write_5 2 rfl ?_
  refine r_callSI [] (fun r M1 h => c_X6_isCell (cx_st hC) hz hZ 30 v1 v2 _ ⟨by decide, rfl⟩ r M1 h) hf cs_X6_214 hC  rfl rfl (by decide) (by decide) (Nat.le_of_ble_eq_true rfl) (by decide) (by decide) dX6_write_6 (fun x1 M2 hf => ?_)
  refine r_istore (L' := [(4, .int x1), (0, .ref (Z.1 27)), (1, .int v1), (2, .int v2), (3, .int v3)]) hC dX6_write_9 (by decide) rfl ?_
  refine r_aload_n hC dX6_write_11 1 rfl ?_
  refine r_iload hC dX6_write_12 0 rfl ?_
  refine r_if_ne 21 hC dX6_write_14 (by decide) (fun h => ?_) (fun h => ?_)
  · have hf := if_F hf h
    refine r_iload_n hC dX6_write_21 4 rfl ?_
    refine r_i2l hC dX6_write_22 ?_
    refine r_ldc2 (v := (-1)) hC dX6_write_23 kw_X6_226 ?_
    refine r_ldc2 (v := 60) hC dX6_write_26 kw_X6_199 ?_
    refine r_callSI [.ref (Z.1 27)] (fun r M1 h => c_X6_in (cx_st hC) hz hZ (Int32.toInt64 v3) (-1) 60 _  r M1 h) hf cs_X6_66 hC  rfl rfl (by decide) (by decide) (Nat.le_of_ble_eq_true rfl) (by decide) (by decide) dX6_write_29 (fun x3 M4 hf => ?_)
    refine r_if_ne 45 hC dX6_write_32 (by decide) (fun h => ?_) (fun h => ?_)
    · have hf := if_F hf h
      refine r_L [1, 2, 3, 4] rfl ?_
      exact w_X6_write_b45 hC hz hZ v1 v2 v3 _ hf
    · have hf := if_T hf h
      refine r_iload_n hC dX6_write_35 4 rfl ?_
      refine r_bipush (v := 99) hC dX6_write_36 rfl ?_
      refine r_icmp_eq 45 hC dX6_write_38 (by decide) (fun h => ?_) (fun h => ?_)
      · have hf := if_T hf h
        refine r_L [1, 2, 3, 4] rfl ?_
        exact w_X6_write_b45 hC hz hZ v1 v2 v3 _ hf
      · have hf := if_F hf h
        refine r_iconst (v := 2) hC dX6_write_41 rfl ?_
        refine r_goto 63 hC dX6_write_42 (by decide) ?_
        refine r_L [1, 2, 3, 4] rfl ?_
        exact w_X6_write_b63 hC hz hZ v1 v2 v3 2 _ hf
  · have hf := if_T hf h
    refine r_iconst (v := 1) hC dX6_write_17 rfl ?_
    refine r_goto 63 hC dX6_write_18 (by decide) ?_
    refine r_L [1, 2, 3, 4] rfl ?_
    exact w_X6_write_b63 hC hz hZ v1 v2 v3 1 _ hf
set_option maxRecDepth 20000 in
theorem c_X6_write {l : Launch} (hl : l.stackTraces = false) {G : GG} {Z : ZZ} (hz : ZOk G Z) (hZ : ZM Z) (v1 : Int32) (v2 : Int32) (v3 : Int32) (M : Mem)  (r : Int32) (M' : Mem) (hf : f_X6_write v1 v2 v3 M = some (r, M')) : CN (QcI G Z r M') l G Z yX6_write cX6_write 6 (some .int) 3 [.ref (Z.1 27), .int v1, .int v2, .int v3] M :=
  CN.of [(0, .ref (Z.1 27)), (1, .int v1), (2, .int v2), (3, .int v3)] hl (by decide +kernel) (Nat.le_of_ble_eq_true rfl) rfl (fun _ hC => w_X6_write hC hz hZ v1 v2 v3 M  hf)
set_option maxRecDepth 20000 in
theorem w_X6_canShift_b59 {X : XX} {G : GG} {Z : ZZ} {r : Int32} {M' : Mem} (hC : Cx X G RX6 cX6_canShift (some .boolean) 1 0 0 6) (hz : ZOk G Z) (hZ : ZM Z) (r0 : Nat) (v1 : Int32) (v2 : Int32) (v4 : Int32) (hr0 : ArI r0) (k5 : Int32 → Int32 → Mem → Option (Int32 × Mem)) (hk5 : ∀ (u3 : Int32) (u4 : Int32) (M : Mem), k5 u3 u4 M = some (r, M') → V X G Z M 0 0 (QN X G (QcI G Z r M') 0 0) 5 [(0, .ref (Z.1 r0)), (1, .int v1), (2, .int v2), (3, .int u3), (4, .int u4)] []) (M : Mem) (hf : f_X6_canShift_b59 r0 v1 v2 v4 k5 M = some (r, M')) : V X G Z M 0 0 (QN X G (QcI G Z r M') 0 0) 59 [(0, .ref (Z.1 r0)), (1, .int v1), (2, .int v2), (4, .int v4)] [] := by
  unfold f_X6_canShift_b59 at hf
  refine r_iconst (v := 1) hC dX6_canShift_59 rfl ?_
  refine r_goto 64 hC dX6_canShift_60 (by decide) ?_
  refine r_istore_n (L' := [(3, .int 1), (0, .ref (Z.1 r0)), (1, .int v1), (2, .int v2), (4, .int v4)]) hC dX6_canShift_64 (by decide) rfl ?_
  refine r_iinc (v := v4 + 1) (L' := [(4, .int (v4 + 1)), (3, .int 1), (0, .ref (Z.1 r0)), (1, .int v1), (2, .int v2)]) hC dX6_canShift_65 4 rfl rfl (by decide) rfl ?_
  refine r_goto 5 hC dX6_canShift_68 (by decide) ?_
  refine r_L [2, 3, 4, 1, 0] rfl ?_
  exact hk5 _ _ _ hf
set_option maxRecDepth 20000 in
theorem w_X6_canShift_b5 {X : XX} {G : GG} {Z : ZZ} {r : Int32} {M' : Mem} (hC : Cx X G RX6 cX6_canShift (some .boolean) 1 0 0 6) (hz : ZOk G Z) (hZ : ZM Z) (r0 : Nat) (v1 : Int32) (v2 : Int32) (hr0 : ArI r0) (k5 : Int32 → Int32 → Mem → Option (Int32 × Mem)) (hk5 : ∀ (u3 : Int32) (u4 : Int32) (M : Mem), k5 u3 u4 M = some (r, M') → V X G Z M 0 0 (QN X G (QcI G Z r M') 0 0) 5 [(0, .ref (Z.1 r0)), (1, .int v1), (2, .int v2), (3, .int u3), (4, .int u4)] []) (v3 : Int32) (v4 : Int32) (M : Mem) (hf : f_X6_canShift_b5 r0 v1 v2 k5 v3 v4 M = some (r, M')) : V X G Z M 0 0 (QN X G (QcI G Z r M') 0 0) 5 [(0, .ref (Z.1 r0)), (1, .int v1), (2, .int v2), (3, .int v3), (4, .int v4)] [] := by
  unfold f_X6_canShift_b5 at hf
  refine r_iload hC dX6_canShift_5 4 rfl ?_
  refine r_aload_n hC dX6_canShift_7 0 rfl ?_
  refine r_bipush (v := 7) hC dX6_canShift_8 rfl ?_
  have hin := if_K hf
  have hf := if_V hf
  refine r_iald hC (z_r hZ hr0) (inb_vp hin) dX6_canShift_10 ?_
  refine r_icmp_ge 71 hC dX6_canShift_11 (by decide) (fun h => ?_) (fun h => ?_)
  · have hf := if_T hf h
    refine r_iload_n hC dX6_canShift_71 3 rfl ?_
    have hne := if_K hf
    have hf := if_V hf
    exact r_zret hf hC rfl (nar_bool hne).1 (by decide) (by decide) dX6_canShift_72
  · have hf := if_F hf h
    refine r_aload_n hC dX6_canShift_14 0 rfl ?_
    refine r_bipush (v := 8) hC dX6_canShift_15 rfl ?_
    refine r_iload_n hC dX6_canShift_17 1 rfl ?_
    refine r_iload hC dX6_canShift_18 4 rfl ?_
    refine r_callSI [.int 8, .ref (Z.1 r0)] (fun r M1 h => c_X6_at (cx_st hC) hz hZ v1 v4 _  r M1 h) hf cs_X6_70 hC  rfl rfl (by decide) (by decide) (Nat.le_of_ble_eq_true rfl) (by decide) (by decide) dX6_canShift_20 (fun x1 M2 hf => ?_)
    refine r_iadd hC dX6_canShift_23 ?_
    have hin := if_K hf
    have hf := if_V hf
    refine r_iald hC (z_r hZ hr0) (inb_vp hin) dX6_canShift_24 ?_
    refine r_istore (L' := [(5, .int (M2 r0 (Int32.toNatClampNeg (8 + x1)))), (0, .ref (Z.1 r0)), (1, .int v1), (2, .int v2), (3, .int v3), (4, .int v4)]) hC dX6_canShift_25 (by decide) rfl ?_
    refine r_iload_n hC dX6_canShift_27 4 rfl ?_
    refine r_if_eq 63 hC dX6_canShift_28 (by decide) (fun h => ?_) (fun h => ?_)
    · have hf := if_T hf h
      refine r_iconst (v := 0) hC dX6_canShift_63 rfl ?_
      refine r_istore_n (L' := [(3, .int 0), (5, .int (M2 r0 (Int32.toNatClampNeg (8 + x1)))), (0, .ref (Z.1 r0)), (1, .int v1), (2, .int v2), (4, .int v4)]) hC dX6_canShift_64 (by decide) rfl ?_
      refine r_iinc (v := v4 + 1) (L' := [(4, .int (v4 + 1)), (3, .int 0), (5, .int (M2 r0 (Int32.toNatClampNeg (8 + x1)))), (0, .ref (Z.1 r0)), (1, .int v1), (2, .int v2)]) hC dX6_canShift_65 5 rfl rfl (by decide) rfl ?_
      refine r_goto 5 hC dX6_canShift_68 (by decide) ?_
      refine r_L [3, 4, 5, 1, 0] rfl ?_
      exact hk5 _ _ _ hf
    · have hf := if_F hf h
      refine r_iload hC dX6_canShift_31 0 rfl ?_
      refine r_i2l hC dX6_canShift_33 ?_
      refine r_lconst (v := 0) hC dX6_canShift_34 rfl ?_
      refine r_ldc2 (v := 60) hC dX6_canShift_35 kw_X6_199 ?_
      refine r_callSI [] (fun r M1 h => c_X6_in (cx_st hC) hz hZ (Int32.toInt64 (M2 r0 (Int32.toNatClampNeg (8 + x1)))) 0 60 _  r M1 h) hf cs_X6_66 hC  rfl rfl (by decide) (by decide) (Nat.le_of_ble_eq_true rfl) (by decide) (by decide) dX6_canShift_38 (fun x3 M4 hf => ?_)
      refine r_if_eq 59 hC dX6_canShift_41 (by decide) (fun h => ?_) (fun h => ?_)
      · have hf := if_T hf h
        refine r_L [1, 2, 3, 5] rfl ?_
        exact w_X6_canShift_b59 hC hz hZ r0 v1 v2 v4 hr0 k5 hk5 _ hf
      · have hf := if_F hf h
        refine r_iload hC dX6_canShift_44 0 rfl ?_
        refine r_iload_n hC dX6_canShift_46 3 rfl ?_
        refine r_iadd hC dX6_canShift_47 ?_
        refine r_i2l hC dX6_canShift_48 ?_
        refine r_lconst (v := 0) hC dX6_canShift_49 rfl ?_
        refine r_ldc2 (v := 60) hC dX6_canShift_50 kw_X6_199 ?_
        refine r_callSI [] (fun r M1 h => c_X6_in (cx_st hC) hz hZ (Int32.toInt64 ((M2 r0 (Int32.toNatClampNeg (8 + x1))) + v2)) 0 60 _  r M1 h) hf cs_X6_66 hC  rfl rfl (by decide) (by decide) (Nat.le_of_ble_eq_true rfl) (by decide) (by decide) dX6_canShift_53 (fun x5 M6 hf => ?_)
        refine r_if_eq 63 hC dX6_canShift_56 (by decide) (fun h => ?_) (fun h => ?_)
        · have hf := if_T hf h
          refine r_iconst (v := 0) hC dX6_canShift_63 rfl ?_
          refine r_istore_n (L' := [(3, .int 0), (5, .int (M2 r0 (Int32.toNatClampNeg (8 + x1)))), (0, .ref (Z.1 r0)), (1, .int v1), (2, .int v2), (4, .int v4)]) hC dX6_canShift_64 (by decide) rfl ?_
          refine r_iinc (v := v4 + 1) (L' := [(4, .int (v4 + 1)), (3, .int 0), (5, .int (M2 r0 (Int32.toNatClampNeg (8 + x1)))), (0, .ref (Z.1 r0)), (1, .int v1), (2, .int v2)]) hC dX6_canShift_65 5 rfl rfl (by decide) rfl ?_
          refine r_goto 5 hC dX6_canShift_68 (by decide) ?_
          refine r_L [3, 4, 5, 1, 0] rfl ?_
          exact hk5 _ _ _ hf
        · have hf := if_F hf h
          refine r_L [1, 2, 3, 5] rfl ?_
          exact w_X6_canShift_b59 hC hz hZ r0 v1 v2 v4 hr0 k5 hk5 _ hf
set_option maxRecDepth 20000 in
theorem w_X6_canShift {X : XX} {G : GG} {Z : ZZ} (hC : Cx X G RX6 cX6_canShift (some .boolean) 1 0 0 6) (hz : ZOk G Z) (hZ : ZM Z) (r0 : Nat) (v1 : Int32) (v2 : Int32) (M : Mem) (hr0 : ArI r0) {r : Int32} {M' : Mem} (hf : f_X6_canShift r0 v1 v2 M = some (r, M')) : V X G Z M 0 0 (QN X G (QcI G Z r M') 0 0) 0 [(0, .ref (Z.1 r0)), (1, .int v1), (2, .int v2)] [] := by
  unfold f_X6_canShift at hf
  refine r_iconst (v := 1) hC dX6_canShift_0 rfl ?_
  refine r_istore_n (L' := [(3, .int 1), (0, .ref (Z.1 r0)), (1, .int v1), (2, .int v2)]) hC dX6_canShift_1 (by decide) rfl ?_
  refine r_iconst (v := 0) hC dX6_canShift_2 rfl ?_
  refine r_istore (L' := [(4, .int 0), (3, .int 1), (0, .ref (Z.1 r0)), (1, .int v1), (2, .int v2)]) hC dX6_canShift_3 (by decide) rfl ?_
  refine r_L [2, 3, 4, 1, 0] rfl ?_
  exact lq2_ind (P := fun (u3 : Int32) (u4 : Int32) (M : Mem) => V X G Z M 0 0 (QN X G (QcI G Z r M') 0 0) 5 [(0, .ref (Z.1 r0)), (1, .int v1), (2, .int v2), (3, .int u3), (4, .int u4)] []) (fun kk hkk u3 u4 M hf => w_X6_canShift_b5 hC hz hZ r0 v1 v2 hr0 kk hkk u3 u4 M hf) _ _ _ _ hf
set_option maxRecDepth 20000 in
theorem c_X6_canShift {l : Launch} (hl : l.stackTraces = false) {G : GG} {Z : ZZ} (hz : ZOk G Z) (hZ : ZM Z) (r0 : Nat) (v1 : Int32) (v2 : Int32) (M : Mem) (hr0 : ArI r0) (r : Int32) (M' : Mem) (hf : f_X6_canShift r0 v1 v2 M = some (r, M')) : CN (QcI G Z r M') l G Z yX6_canShift cX6_canShift 6 (some .boolean) 1 [.ref (Z.1 r0), .int v1, .int v2] M :=
  CN.of [(0, .ref (Z.1 r0)), (1, .int v1), (2, .int v2)] hl (by decide +kernel) (Nat.le_of_ble_eq_true rfl) rfl (fun _ hC => w_X6_canShift hC hz hZ r0 v1 v2 M hr0 hf)
set_option maxRecDepth 20000 in
theorem w_X6_shift_b5 {X : XX} {G : GG} {Z : ZZ} {r : Int32} {M' : Mem} (hC : Cx X G RX6 cX6_shift (some .int) 1 0 0 6) (hz : ZOk G Z) (hZ : ZM Z) (r0 : Nat) (v1 : Int32) (v2 : Int32) (hr0 : ArI r0) (k5 : Int32 → Int32 → Mem → Option (Int32 × Mem)) (hk5 : ∀ (u3 : Int32) (u4 : Int32) (M : Mem), k5 u3 u4 M = some (r, M') → V X G Z M 0 0 (QN X G (QcI G Z r M') 0 0) 5 [(0, .ref (Z.1 r0)), (1, .int v1), (2, .int v2), (3, .int u3), (4, .int u4)] []) (v3 : Int32) (v4 : Int32) (M : Mem) (hf : f_X6_shift_b5 r0 v1 v2 k5 v3 v4 M = some (r, M')) : V X G Z M 0 0 (QN X G (QcI G Z r M') 0 0) 5 [(0, .ref (Z.1 r0)), (1, .int v1), (2, .int v2), (3, .int v3), (4, .int v4)] [] := by
  unfold f_X6_shift_b5 at hf
  refine r_iload hC dX6_shift_5 4 rfl ?_
  refine r_aload_n hC dX6_shift_7 0 rfl ?_
  refine r_bipush (v := 7) hC dX6_shift_8 rfl ?_
  have hin := if_K hf
  have hf := if_V hf
  refine r_iald hC (z_r hZ hr0) (inb_vp hin) dX6_shift_10 ?_
  refine r_icmp_ge 57 hC dX6_shift_11 (by decide) (fun h => ?_) (fun h => ?_)
  · have hf := if_T hf h
    refine r_iload_n hC dX6_shift_57 3 rfl ?_
    exact r_iret hf hC (by decide) (by decide) dX6_shift_58
  · have hf := if_F hf h
    refine r_bipush (v := 8) hC dX6_shift_14 rfl ?_
    refine r_iload_n hC dX6_shift_16 1 rfl ?_
    refine r_iload hC dX6_shift_17 4 rfl ?_
    refine r_callSI [.int 8] (fun r M1 h => c_X6_at (cx_st hC) hz hZ v1 v4 _  r M1 h) hf cs_X6_70 hC  rfl rfl (by decide) (by decide) (Nat.le_of_ble_eq_true rfl) (by decide) (by decide) dX6_shift_19 (fun x1 M2 hf => ?_)
    refine r_iadd hC dX6_shift_22 ?_
    refine r_istore (L' := [(5, .int (8 + x1)), (0, .ref (Z.1 r0)), (1, .int v1), (2, .int v2), (3, .int v3), (4, .int v4)]) hC dX6_shift_23 (by decide) rfl ?_
    refine r_aload_n hC dX6_shift_25 1 rfl ?_
    refine r_iload hC dX6_shift_26 0 rfl ?_
    have hin := if_K hf
    have hf := if_V hf
    refine r_iald hC (z_r hZ hr0) (inb_vp hin) dX6_shift_28 ?_
    refine r_i2l hC dX6_shift_29 ?_
    refine r_lconst (v := 0) hC dX6_shift_30 rfl ?_
    refine r_ldc2 (v := 60) hC dX6_shift_31 kw_X6_199 ?_
    refine r_callSI [] (fun r M1 h => c_X6_in (cx_st hC) hz hZ (Int32.toInt64 (M2 r0 (Int32.toNatClampNeg (8 + x1)))) 0 60 _  r M1 h) hf cs_X6_66 hC  rfl rfl (by decide) (by decide) (Nat.le_of_ble_eq_true rfl) (by decide) (by decide) dX6_shift_34 (fun x3 M4 hf => ?_)
    refine r_if_eq 51 hC dX6_shift_37 (by decide) (fun h => ?_) (fun h => ?_)
    · have hf := if_T hf h
      refine r_iinc (v := v4 + 1) (L' := [(4, .int (v4 + 1)), (5, .int (8 + x1)), (0, .ref (Z.1 r0)), (1, .int v1), (2, .int v2), (3, .int v3)]) hC dX6_shift_51 5 rfl rfl (by decide) rfl ?_
      refine r_goto 5 hC dX6_shift_54 (by decide) ?_
      refine r_L [2, 3, 4, 5, 0] rfl ?_
      exact hk5 _ _ _ hf
    · have hf := if_F hf h
      refine r_aload_n hC dX6_shift_40 1 rfl ?_
      refine r_iload hC dX6_shift_41 0 rfl ?_
      refine r_dup2 hC dX6_shift_43 rfl rfl ?_
      have hin := if_K hf
      have hf := if_V hf
      refine r_iald hC (z_r hZ hr0) (inb_vp hin) dX6_shift_44 ?_
      refine r_iload_n hC dX6_shift_45 3 rfl ?_
      refine r_iadd hC dX6_shift_46 ?_
      have hin := if_K hf
      have hf := if_V hf
      refine r_iast hC hz (z_r hZ hr0) (inb_vp hin) dX6_shift_47 ?_
      refine r_iinc (v := v3 + 1) (L' := [(3, .int (v3 + 1)), (5, .int (8 + x1)), (0, .ref (Z.1 r0)), (1, .int v1), (2, .int v2), (4, .int v4)]) hC dX6_shift_48 4 rfl rfl (by decide) rfl ?_
      refine r_iinc (v := v4 + 1) (L' := [(4, .int (v4 + 1)), (3, .int (v3 + 1)), (5, .int (8 + x1)), (0, .ref (Z.1 r0)), (1, .int v1), (2, .int v2)]) hC dX6_shift_51 5 rfl rfl (by decide) rfl ?_
      refine r_goto 5 hC dX6_shift_54 (by decide) ?_
      refine r_L [3, 4, 5, 1, 0] rfl ?_
      exact hk5 _ _ _ hf
set_option maxRecDepth 20000 in
theorem w_X6_shift {X : XX} {G : GG} {Z : ZZ} (hC : Cx X G RX6 cX6_shift (some .int) 1 0 0 6) (hz : ZOk G Z) (hZ : ZM Z) (r0 : Nat) (v1 : Int32) (v2 : Int32) (M : Mem) (hr0 : ArI r0) {r : Int32} {M' : Mem} (hf : f_X6_shift r0 v1 v2 M = some (r, M')) : V X G Z M 0 0 (QN X G (QcI G Z r M') 0 0) 0 [(0, .ref (Z.1 r0)), (1, .int v1), (2, .int v2)] [] := by
  unfold f_X6_shift at hf
  refine r_iconst (v := 0) hC dX6_shift_0 rfl ?_
  refine r_istore_n (L' := [(3, .int 0), (0, .ref (Z.1 r0)), (1, .int v1), (2, .int v2)]) hC dX6_shift_1 (by decide) rfl ?_
  refine r_iconst (v := 0) hC dX6_shift_2 rfl ?_
  refine r_istore (L' := [(4, .int 0), (3, .int 0), (0, .ref (Z.1 r0)), (1, .int v1), (2, .int v2)]) hC dX6_shift_3 (by decide) rfl ?_
  refine r_L [2, 3, 4, 1, 0] rfl ?_
  exact lq2_ind (P := fun (u3 : Int32) (u4 : Int32) (M : Mem) => V X G Z M 0 0 (QN X G (QcI G Z r M') 0 0) 5 [(0, .ref (Z.1 r0)), (1, .int v1), (2, .int v2), (3, .int u3), (4, .int u4)] []) (fun kk hkk u3 u4 M hf => w_X6_shift_b5 hC hz hZ r0 v1 v2 hr0 kk hkk u3 u4 M hf) _ _ _ _ hf
set_option maxRecDepth 20000 in
theorem c_X6_shift {l : Launch} (hl : l.stackTraces = false) {G : GG} {Z : ZZ} (hz : ZOk G Z) (hZ : ZM Z) (r0 : Nat) (v1 : Int32) (v2 : Int32) (M : Mem) (hr0 : ArI r0) (r : Int32) (M' : Mem) (hf : f_X6_shift r0 v1 v2 M = some (r, M')) : CN (QcI G Z r M') l G Z yX6_shift cX6_shift 6 (some .int) 1 [.ref (Z.1 r0), .int v1, .int v2] M :=
  CN.of [(0, .ref (Z.1 r0)), (1, .int v1), (2, .int v2)] hl (by decide +kernel) (Nat.le_of_ble_eq_true rfl) rfl (fun _ hC => w_X6_shift hC hz hZ r0 v1 v2 M hr0 hf)
set_option maxRecDepth 20000 in
theorem w_X6_transpose_b51 {X : XX} {G : GG} {Z : ZZ} {r : Int32} {M' : Mem} (hC : Cx X G RX6 cX6_transpose (some .int) 2 0 0 3) (hz : ZOk G Z) (hZ : ZM Z) (v1 : Int32) (v2 : Int32) (s0 : Int32) (M : Mem) (hf : f_X6_transpose_b51 v1 v2 s0 M = some (r, M')) : V X G Z M 0 0 (QN X G (QcI G Z r M') 0 0) 51 [(0, .ref (Z.1 27)), (1, .int v1), (2, .int v2)] [.int s0, .ref (Z.1 27)] := by
  unfold f_X6_transpose_b51 at hf
  refine r_callVI [] (fun r M1 h => c_X6_refused (cx_st hC) hz hZ s0 _  r M1 h) hf cs_X6_169 hC (z_1 hZ 27 (by decide) rfl) (q0 := (RX6, TX6, 19)) rfl rfl [.int s0] rfl rfl rfl (by decide) (by decide) (Nat.le_of_ble_eq_true rfl) (by decide) (by decide) dX6_transpose_51 (fun x7 M8 hf => ?_)
  refine r_if_eq 59 hC dX6_transpose_54 (by decide) (fun h => ?_) (fun h => ?_)
  · have hf := if_T hf h
    refine r_aload_n hC dX6_transpose_59 0 rfl ?_
    refine r_callVV [] (fun r M1 h => c_X6_remember (cx_st hC) hz hZ  _  r M1 h) hf cs_X6_220 hC (z_1 hZ 27 (by decide) rfl) (q0 := (RX6, TX6, 19)) rfl rfl [] rfl rfl rfl (by decide) (by decide) (Nat.le_of_ble_eq_true rfl) (by decide) (by decide) dX6_transpose_60 (fun x9 M10 hf => ?_)
    refine r_aload_n hC dX6_transpose_63 0 rfl ?_
    refine gf_X6_16 hC (z_1 hZ 27 (by decide) rfl) rfl dX6_transpose_64 ?_
    refine r_iload_n hC dX6_transpose_67 1 rfl ?_
    refine r_iload_n hC dX6_transpose_68 2 rfl ?_
    refine r_callSI [] (fun r M1 h => c_X6_shift (cx_st hC) hz hZ 30 v1 v2 _ ⟨by decide, rfl⟩ r M1 h) hf cs_X6_240 hC  rfl rfl (by decide) (by decide) (Nat.le_of_ble_eq_true rfl) (by decide) (by decide) dX6_transpose_69 (fun x11 M12 hf => ?_)
    exact r_iret hf hC (by decide) (by decide) dX6_transpose_72
  · have hf := if_F hf h
    refine r_iconst (v := 0) hC dX6_transpose_57 rfl ?_
    exact r_iret hf hC (by decide) (by decide) dX6_transpose_58
set_option maxRecDepth 20000 in
theorem w_X6_transpose {X : XX} {G : GG} {Z : ZZ} (hC : Cx X G RX6 cX6_transpose (some .int) 2 0 0 3) (hz : ZOk G Z) (hZ : ZM Z) (v1 : Int32) (v2 : Int32) (M : Mem)  {r : Int32} {M' : Mem} (hf : f_X6_transpose v1 v2 M = some (r, M')) : V X G Z M 0 0 (QN X G (QcI G Z r M') 0 0) 0 [(0, .ref (Z.1 27)), (1, .int v1), (2, .int v2)] [] := by
  unfold f_X6_transpose at hf
  refine r_aload_n hC dX6_transpose_0 0 rfl ?_
  refine r_aload_n hC dX6_transpose_1 0 rfl ?_
  refine gf_X6_16 hC (z_1 hZ 27 (by decide) rfl) rfl dX6_transpose_2 ?_
  refine r_iload_n hC dX6_transpose_5 1 rfl ?_
  refine r_callSI [.ref (Z.1 27)] (fun r M1 h => c_X6_isStaff (cx_st hC) hz hZ 30 v1 _ ⟨by decide, rfl⟩ r M1 h) hf cs_X6_207 hC  rfl rfl (by decide) (by decide) (Nat.le_of_ble_eq_true rfl) (by decide) (by decide) dX6_transpose_6 (fun x1 M2 hf => ?_)
  refine r_if_ne 16 hC dX6_transpose_9 (by decide) (fun h => ?_) (fun h => ?_)
  · have hf := if_F hf h
    refine r_iload_n hC dX6_transpose_16 2 rfl ?_
    refine r_i2l hC dX6_transpose_17 ?_
    refine r_ldc2 (v := (-60)) hC dX6_transpose_18 kw_X6_235 ?_
    refine r_ldc2 (v := 60) hC dX6_transpose_21 kw_X6_199 ?_
    refine r_callSI [.ref (Z.1 27)] (fun r M1 h => c_X6_in (cx_st hC) hz hZ (Int32.toInt64 v2) (-60) 60 _  r M1 h) hf cs_X6_66 hC  rfl rfl (by decide) (by decide) (Nat.le_of_ble_eq_true rfl) (by decide) (by decide) dX6_transpose_24 (fun x3 M4 hf => ?_)
    refine r_if_ne 34 hC dX6_transpose_27 (by decide) (fun h => ?_) (fun h => ?_)
    · have hf := if_F hf h
      refine r_aload_n hC dX6_transpose_34 0 rfl ?_
      refine gf_X6_16 hC (z_1 hZ 27 (by decide) rfl) rfl dX6_transpose_35 ?_
      refine r_iload_n hC dX6_transpose_38 1 rfl ?_
      refine r_iload_n hC dX6_transpose_39 2 rfl ?_
      refine r_callSI [.ref (Z.1 27)] (fun r M1 h => c_X6_canShift (cx_st hC) hz hZ 30 v1 v2 _ ⟨by decide, rfl⟩ r M1 h) hf cs_X6_237 hC  rfl rfl (by decide) (by decide) (Nat.le_of_ble_eq_true rfl) (by decide) (by decide) dX6_transpose_40 (fun x5 M6 hf => ?_)
      refine r_if_ne 50 hC dX6_transpose_43 (by decide) (fun h => ?_) (fun h => ?_)
      · have hf := if_F hf h
        refine r_iconst (v := 0) hC dX6_transpose_50 rfl ?_
        exact w_X6_transpose_b51 hC hz hZ v1 v2 0 _ hf
      · have hf := if_T hf h
        refine r_iconst (v := 3) hC dX6_transpose_46 rfl ?_
        refine r_goto 51 hC dX6_transpose_47 (by decide) ?_
        exact w_X6_transpose_b51 hC hz hZ v1 v2 3 _ hf
    · have hf := if_T hf h
      refine r_iconst (v := 2) hC dX6_transpose_30 rfl ?_
      refine r_goto 51 hC dX6_transpose_31 (by decide) ?_
      exact w_X6_transpose_b51 hC hz hZ v1 v2 2 _ hf
  · have hf := if_T hf h
    refine r_iconst (v := 1) hC dX6_transpose_12 rfl ?_
    refine r_goto 51 hC dX6_transpose_13 (by decide) ?_
    exact w_X6_transpose_b51 hC hz hZ v1 v2 1 _ hf
set_option maxRecDepth 20000 in
theorem c_X6_transpose {l : Launch} (hl : l.stackTraces = false) {G : GG} {Z : ZZ} (hz : ZOk G Z) (hZ : ZM Z) (v1 : Int32) (v2 : Int32) (M : Mem)  (r : Int32) (M' : Mem) (hf : f_X6_transpose v1 v2 M = some (r, M')) : CN (QcI G Z r M') l G Z yX6_transpose cX6_transpose 3 (some .int) 2 [.ref (Z.1 27), .int v1, .int v2] M :=
  CN.of [(0, .ref (Z.1 27)), (1, .int v1), (2, .int v2)] hl (by decide +kernel) (Nat.le_of_ble_eq_true rfl) rfl (fun _ hC => w_X6_transpose hC hz hZ v1 v2 M  hf)
set_option maxRecDepth 20000 in
theorem w_X6_swap_b53 {X : XX} {G : GG} {Z : ZZ} {r : Int32} {M' : Mem} (hC : Cx X G RX6 cX6_swap (some .int) 1 0 0 7) (hz : ZOk G Z) (hZ : ZM Z) (r0 : Nat) (v1 : Int32) (v2 : Int32) (v4 : Int32) (v5 : Int32) (v6 : Int32) (hr0 : ArI r0) (k5 : Int32 → Int32 → Mem → Option (Int32 × Mem)) (hk5 : ∀ (u3 : Int32) (u4 : Int32) (M : Mem), k5 u3 u4 M = some (r, M') → V X G Z M 0 0 (QN X G (QcI G Z r M') 0 0) 5 [(0, .ref (Z.1 r0)), (1, .int v1), (2, .int v2), (3, .int u3), (4, .int u4)] []) (s0 : Int32) (s1 : Int32) (M : Mem) (hf : f_X6_swap_b53 r0 v1 v2 v4 v5 v6 k5 s0 s1 M = some (r, M')) : V X G Z M 0 0 (QN X G (QcI G Z r M') 0 0) 53 [(0, .ref (Z.1 r0)), (1, .int v1), (2, .int v2), (4, .int v4), (5, .int v5), (6, .int v6)] [.int s0, .int s1] := by
  unfold f_X6_swap_b53 at hf
  refine r_iadd hC dX6_swap_53 ?_
  refine r_istore_n (L' := [(3, .int (s1 + s0)), (0, .ref (Z.1 r0)), (1, .int v1), (2, .int v2), (4, .int v4), (5, .int v5), (6, .int v6)]) hC dX6_swap_54 (by decide) rfl ?_
  refine r_aload_n hC dX6_swap_55 1 rfl ?_
  refine r_bipush (v := 8) hC dX6_swap_56 rfl ?_
  refine r_iload_n hC dX6_swap_58 2 rfl ?_
  refine r_iload hC dX6_swap_59 4 rfl ?_
  refine r_callSI [.int 8, .ref (Z.1 r0)] (fun r M1 h => c_X6_at (cx_st hC) hz hZ v1 v4 _  r M1 h) hf cs_X6_70 hC  rfl rfl (by decide) (by decide) (Nat.le_of_ble_eq_true rfl) (by decide) (by decide) dX6_swap_61 (fun x5 M6 hf => ?_)
  refine r_iadd hC dX6_swap_64 ?_
  refine r_iload hC dX6_swap_65 6 rfl ?_
  have hin := if_K hf
  have hf := if_V hf
  refine r_iast hC hz (z_r hZ hr0) (inb_vp hin) dX6_swap_67 ?_
  refine r_aload_n hC dX6_swap_68 1 rfl ?_
  refine r_bipush (v := 8) hC dX6_swap_69 rfl ?_
  refine r_iload_n hC dX6_swap_71 3 rfl ?_
  refine r_iload hC dX6_swap_72 4 rfl ?_
  refine r_callSI [.int 8, .ref (Z.1 r0)] (fun r M1 h => c_X6_at (cx_st hC) hz hZ v2 v4 _  r M1 h) hf cs_X6_70 hC  rfl rfl (by decide) (by decide) (Nat.le_of_ble_eq_true rfl) (by decide) (by decide) dX6_swap_74 (fun x7 M8 hf => ?_)
  refine r_iadd hC dX6_swap_77 ?_
  refine r_iload hC dX6_swap_78 5 rfl ?_
  have hin := if_K hf
  have hf := if_V hf
  refine r_iast hC hz (z_r hZ hr0) (inb_vp hin) dX6_swap_80 ?_
  refine r_iinc (v := v4 + 1) (L' := [(4, .int (v4 + 1)), (3, .int (s1 + s0)), (0, .ref (Z.1 r0)), (1, .int v1), (2, .int v2), (5, .int v5), (6, .int v6)]) hC dX6_swap_81 4 rfl rfl (by decide) rfl ?_
  refine r_goto 5 hC dX6_swap_84 (by decide) ?_
  refine r_L [2, 3, 4, 1, 0] rfl ?_
  exact hk5 _ _ _ hf
set_option maxRecDepth 20000 in
theorem w_X6_swap_b5 {X : XX} {G : GG} {Z : ZZ} {r : Int32} {M' : Mem} (hC : Cx X G RX6 cX6_swap (some .int) 1 0 0 7) (hz : ZOk G Z) (hZ : ZM Z) (r0 : Nat) (v1 : Int32) (v2 : Int32) (hr0 : ArI r0) (k5 : Int32 → Int32 → Mem → Option (Int32 × Mem)) (hk5 : ∀ (u3 : Int32) (u4 : Int32) (M : Mem), k5 u3 u4 M = some (r, M') → V X G Z M 0 0 (QN X G (QcI G Z r M') 0 0) 5 [(0, .ref (Z.1 r0)), (1, .int v1), (2, .int v2), (3, .int u3), (4, .int u4)] []) (v3 : Int32) (v4 : Int32) (M : Mem) (hf : f_X6_swap_b5 r0 v1 v2 k5 v3 v4 M = some (r, M')) : V X G Z M 0 0 (QN X G (QcI G Z r M') 0 0) 5 [(0, .ref (Z.1 r0)), (1, .int v1), (2, .int v2), (3, .int v3), (4, .int v4)] [] := by
  unfold f_X6_swap_b5 at hf
  refine r_iload hC dX6_swap_5 4 rfl ?_
  refine r_aload_n hC dX6_swap_7 0 rfl ?_
  refine r_bipush (v := 7) hC dX6_swap_8 rfl ?_
  have hin := if_K hf
  have hf := if_V hf
  refine r_iald hC (z_r hZ hr0) (inb_vp hin) dX6_swap_10 ?_
  refine r_icmp_ge 87 hC dX6_swap_11 (by decide) (fun h => ?_) (fun h => ?_)
  · have hf := if_T hf h
    refine r_iload_n hC dX6_swap_87 3 rfl ?_
    exact r_iret hf hC (by decide) (by decide) dX6_swap_88
  · have hf := if_F hf h
    refine r_aload_n hC dX6_swap_14 0 rfl ?_
    refine r_bipush (v := 8) hC dX6_swap_15 rfl ?_
    refine r_iload_n hC dX6_swap_17 1 rfl ?_
    refine r_iload hC dX6_swap_18 4 rfl ?_
    refine r_callSI [.int 8, .ref (Z.1 r0)] (fun r M1 h => c_X6_at (cx_st hC) hz hZ v1 v4 _  r M1 h) hf cs_X6_70 hC  rfl rfl (by decide) (by decide) (Nat.le_of_ble_eq_true rfl) (by decide) (by decide) dX6_swap_20 (fun x1 M2 hf => ?_)
    refine r_iadd hC dX6_swap_23 ?_
    have hin := if_K hf
    have hf := if_V hf
    refine r_iald hC (z_r hZ hr0) (inb_vp hin) dX6_swap_24 ?_
    refine r_istore (L' := [(5, .int (M2 r0 (Int32.toNatClampNeg (8 + x1)))), (0, .ref (Z.1 r0)), (1, .int v1), (2, .int v2), (3, .int v3), (4, .int v4)]) hC dX6_swap_25 (by decide) rfl ?_
    refine r_aload_n hC dX6_swap_27 1 rfl ?_
    refine r_bipush (v := 8) hC dX6_swap_28 rfl ?_
    refine r_iload_n hC dX6_swap_30 3 rfl ?_
    refine r_iload hC dX6_swap_31 5 rfl ?_
    refine r_callSI [.int 8, .ref (Z.1 r0)] (fun r M1 h => c_X6_at (cx_st hC) hz hZ v2 v4 _  r M1 h) hf cs_X6_70 hC  rfl rfl (by decide) (by decide) (Nat.le_of_ble_eq_true rfl) (by decide) (by decide) dX6_swap_33 (fun x3 M4 hf => ?_)
    refine r_iadd hC dX6_swap_36 ?_
    have hin := if_K hf
    have hf := if_V hf
    refine r_iald hC (z_r hZ hr0) (inb_vp hin) dX6_swap_37 ?_
    refine r_istore (L' := [(6, .int (M4 r0 (Int32.toNatClampNeg (8 + x3)))), (5, .int (M2 r0 (Int32.toNatClampNeg (8 + x1)))), (0, .ref (Z.1 r0)), (1, .int v1), (2, .int v2), (3, .int v3), (4, .int v4)]) hC dX6_swap_38 (by decide) rfl ?_
    refine r_iload_n hC dX6_swap_40 5 rfl ?_
    refine r_iload hC dX6_swap_41 1 rfl ?_
    refine r_iload hC dX6_swap_43 0 rfl ?_
    refine r_icmp_ne 52 hC dX6_swap_45 (by decide) (fun h => ?_) (fun h => ?_)
    · have hf := if_F hf h
      refine r_iconst (v := 1) hC dX6_swap_52 rfl ?_
      refine r_L [2, 3, 4, 6, 1, 0] rfl ?_
      exact w_X6_swap_b53 hC hz hZ r0 v1 v2 v4 (M2 r0 (Int32.toNatClampNeg (8 + x1))) (M4 r0 (Int32.toNatClampNeg (8 + x3))) hr0 k5 hk5 1 v3 _ hf
    · have hf := if_T hf h
      refine r_iconst (v := 0) hC dX6_swap_48 rfl ?_
      refine r_goto 53 hC dX6_swap_49 (by decide) ?_
      refine r_L [2, 3, 4, 6, 1, 0] rfl ?_
      exact w_X6_swap_b53 hC hz hZ r0 v1 v2 v4 (M2 r0 (Int32.toNatClampNeg (8 + x1))) (M4 r0 (Int32.toNatClampNeg (8 + x3))) hr0 k5 hk5 0 v3 _ hf
set_option maxRecDepth 20000 in
theorem w_X6_swap {X : XX} {G : GG} {Z : ZZ} (hC : Cx X G RX6 cX6_swap (some .int) 1 0 0 7) (hz : ZOk G Z) (hZ : ZM Z) (r0 : Nat) (v1 : Int32) (v2 : Int32) (M : Mem) (hr0 : ArI r0) {r : Int32} {M' : Mem} (hf : f_X6_swap r0 v1 v2 M = some (r, M')) : V X G Z M 0 0 (QN X G (QcI G Z r M') 0 0) 0 [(0, .ref (Z.1 r0)), (1, .int v1), (2, .int v2)] [] := by
  unfold f_X6_swap at hf
  refine r_iconst (v := 0) hC dX6_swap_0 rfl ?_
  refine r_istore_n (L' := [(3, .int 0), (0, .ref (Z.1 r0)), (1, .int v1), (2, .int v2)]) hC dX6_swap_1 (by decide) rfl ?_
  refine r_iconst (v := 0) hC dX6_swap_2 rfl ?_
  refine r_istore (L' := [(4, .int 0), (3, .int 0), (0, .ref (Z.1 r0)), (1, .int v1), (2, .int v2)]) hC dX6_swap_3 (by decide) rfl ?_
  refine r_L [2, 3, 4, 1, 0] rfl ?_
  exact lq2_ind (P := fun (u3 : Int32) (u4 : Int32) (M : Mem) => V X G Z M 0 0 (QN X G (QcI G Z r M') 0 0) 5 [(0, .ref (Z.1 r0)), (1, .int v1), (2, .int v2), (3, .int u3), (4, .int u4)] []) (fun kk hkk u3 u4 M hf => w_X6_swap_b5 hC hz hZ r0 v1 v2 hr0 kk hkk u3 u4 M hf) _ _ _ _ hf
set_option maxRecDepth 20000 in
theorem c_X6_swap {l : Launch} (hl : l.stackTraces = false) {G : GG} {Z : ZZ} (hz : ZOk G Z) (hZ : ZM Z) (r0 : Nat) (v1 : Int32) (v2 : Int32) (M : Mem) (hr0 : ArI r0) (r : Int32) (M' : Mem) (hf : f_X6_swap r0 v1 v2 M = some (r, M')) : CN (QcI G Z r M') l G Z yX6_swap cX6_swap 7 (some .int) 1 [.ref (Z.1 r0), .int v1, .int v2] M :=
  CN.of [(0, .ref (Z.1 r0)), (1, .int v1), (2, .int v2)] hl (by decide +kernel) (Nat.le_of_ble_eq_true rfl) rfl (fun _ hC => w_X6_swap hC hz hZ r0 v1 v2 M hr0 hf)
set_option maxRecDepth 20000 in
theorem w_X6_exchange_b28 {X : XX} {G : GG} {Z : ZZ} {r : Int32} {M' : Mem} (hC : Cx X G RX6 cX6_exchange (some .int) 2 0 0 3) (hz : ZOk G Z) (hZ : ZM Z) (v1 : Int32) (v2 : Int32) (s0 : Int32) (M : Mem) (hf : f_X6_exchange_b28 v1 v2 s0 M = some (r, M')) : V X G Z M 0 0 (QN X G (QcI G Z r M') 0 0) 28 [(0, .ref (Z.1 27)), (1, .int v1), (2, .int v2)] [.int s0, .ref (Z.1 27)] := by
  unfold f_X6_exchange_b28 at hf
  refine r_callVI [] (fun r M1 h => c_X6_refused (cx_st hC) hz hZ s0 _  r M1 h) hf cs_X6_169 hC (z_1 hZ 27 (by decide) rfl) (q0 := (RX6, TX6, 19)) rfl rfl [.int s0] rfl rfl rfl (by decide) (by decide) (Nat.le_of_ble_eq_true rfl) (by decide) (by decide) dX6_exchange_28 (fun x5 M6 hf => ?_)
  refine r_if_eq 36 hC dX6_exchange_31 (by decide) (fun h => ?_) (fun h => ?_)
  · have hf := if_T hf h
    refine r_aload_n hC dX6_exchange_36 0 rfl ?_
    refine r_callVV [] (fun r M1 h => c_X6_remember (cx_st hC) hz hZ  _  r M1 h) hf cs_X6_220 hC (z_1 hZ 27 (by decide) rfl) (q0 := (RX6, TX6, 19)) rfl rfl [] rfl rfl rfl (by decide) (by decide) (Nat.le_of_ble_eq_true rfl) (by decide) (by decide) dX6_exchange_37 (fun x7 M8 hf => ?_)
    refine r_aload_n hC dX6_exchange_40 0 rfl ?_
    refine gf_X6_16 hC (z_1 hZ 27 (by decide) rfl) rfl dX6_exchange_41 ?_
    refine r_iload_n hC dX6_exchange_44 1 rfl ?_
    refine r_iload_n hC dX6_exchange_45 2 rfl ?_
    refine r_callSI [] (fun r M1 h => c_X6_swap (cx_st hC) hz hZ 30 v1 v2 _ ⟨by decide, rfl⟩ r M1 h) hf cs_X6_244 hC  rfl rfl (by decide) (by decide) (Nat.le_of_ble_eq_true rfl) (by decide) (by decide) dX6_exchange_46 (fun x9 M10 hf => ?_)
    exact r_iret hf hC (by decide) (by decide) dX6_exchange_49
  · have hf := if_F hf h
    refine r_iconst (v := 0) hC dX6_exchange_34 rfl ?_
    exact r_iret hf hC (by decide) (by decide) dX6_exchange_35
set_option maxRecDepth 20000 in
theorem w_X6_exchange_b27 {X : XX} {G : GG} {Z : ZZ} {r : Int32} {M' : Mem} (hC : Cx X G RX6 cX6_exchange (some .int) 2 0 0 3) (hz : ZOk G Z) (hZ : ZM Z) (v1 : Int32) (v2 : Int32) (M : Mem) (hf : f_X6_exchange_b27 v1 v2 M = some (r, M')) : V X G Z M 0 0 (QN X G (QcI G Z r M') 0 0) 27 [(0, .ref (Z.1 27)), (1, .int v1), (2, .int v2)] [.ref (Z.1 27)] := by
  unfold f_X6_exchange_b27 at hf
  refine r_iconst (v := 1) hC dX6_exchange_27 rfl ?_
  exact w_X6_exchange_b28 hC hz hZ v1 v2 1 _ hf
set_option maxRecDepth 20000 in
theorem w_X6_exchange {X : XX} {G : GG} {Z : ZZ} (hC : Cx X G RX6 cX6_exchange (some .int) 2 0 0 3) (hz : ZOk G Z) (hZ : ZM Z) (v1 : Int32) (v2 : Int32) (M : Mem)  {r : Int32} {M' : Mem} (hf : f_X6_exchange v1 v2 M = some (r, M')) : V X G Z M 0 0 (QN X G (QcI G Z r M') 0 0) 0 [(0, .ref (Z.1 27)), (1, .int v1), (2, .int v2)] [] := by
  unfold f_X6_exchange at hf
  refine r_aload_n hC dX6_exchange_0 0 rfl ?_
  refine r_aload_n hC dX6_exchange_1 0 rfl ?_
  refine gf_X6_16 hC (z_1 hZ 27 (by decide) rfl) rfl dX6_exchange_2 ?_
  refine r_iload_n hC dX6_exchange_5 1 rfl ?_
  refine r_callSI [.ref (Z.1 27)] (fun r M1 h => c_X6_isStaff (cx_st hC) hz hZ 30 v1 _ ⟨by decide, rfl⟩ r M1 h) hf cs_X6_207 hC  rfl rfl (by decide) (by decide) (Nat.le_of_ble_eq_true rfl) (by decide) (by decide) dX6_exchange_6 (fun x1 M2 hf => ?_)
  refine r_if_eq 27 hC dX6_exchange_9 (by decide) (fun h => ?_) (fun h => ?_)
  · have hf := if_T hf h
    exact w_X6_exchange_b27 hC hz hZ v1 v2 _ hf
  · have hf := if_F hf h
    refine r_aload_n hC dX6_exchange_12 0 rfl ?_
    refine gf_X6_16 hC (z_1 hZ 27 (by decide) rfl) rfl dX6_exchange_13 ?_
    refine r_iload_n hC dX6_exchange_16 2 rfl ?_
    refine r_callSI [.ref (Z.1 27)] (fun r M1 h => c_X6_isStaff (cx_st hC) hz hZ 30 v2 _ ⟨by decide, rfl⟩ r M1 h) hf cs_X6_207 hC  rfl rfl (by decide) (by decide) (Nat.le_of_ble_eq_true rfl) (by decide) (by decide) dX6_exchange_17 (fun x3 M4 hf => ?_)
    refine r_if_eq 27 hC dX6_exchange_20 (by decide) (fun h => ?_) (fun h => ?_)
    · have hf := if_T hf h
      exact w_X6_exchange_b27 hC hz hZ v1 v2 _ hf
    · have hf := if_F hf h
      refine r_iconst (v := 0) hC dX6_exchange_23 rfl ?_
      refine r_goto 28 hC dX6_exchange_24 (by decide) ?_
      exact w_X6_exchange_b28 hC hz hZ v1 v2 0 _ hf
set_option maxRecDepth 20000 in
theorem c_X6_exchange {l : Launch} (hl : l.stackTraces = false) {G : GG} {Z : ZZ} (hz : ZOk G Z) (hZ : ZM Z) (v1 : Int32) (v2 : Int32) (M : Mem)  (r : Int32) (M' : Mem) (hf : f_X6_exchange v1 v2 M = some (r, M')) : CN (QcI G Z r M') l G Z yX6_exchange cX6_exchange 3 (some .int) 2 [.ref (Z.1 27), .int v1, .int v2] M :=
  CN.of [(0, .ref (Z.1 27)), (1, .int v1), (2, .int v2)] hl (by decide +kernel) (Nat.le_of_ble_eq_true rfl) rfl (fun _ hC => w_X6_exchange hC hz hZ v1 v2 M  hf)
set_option maxRecDepth 20000 in
theorem w_X6_staff_b104 {X : XX} {G : GG} {Z : ZZ} {r : Int32} {M' : Mem} (hC : Cx X G RX6 cX6_staff (some .int) 2 0 0 3) (hz : ZOk G Z) (hZ : ZM Z) (s0 : Int32) (s1 : Int32) (s2 : Int32) (s3 : Nat) (hs3 : ArI s3) (M : Mem) (hf : f_X6_staff_b104 s0 s1 s2 s3 M = some (r, M')) : V X G Z M 0 0 (QN X G (QcI G Z r M') 0 0) 104 [(0, .ref (Z.1 27))] [.int s0, .int s1, .int s2, .ref (Z.1 s3)] := by
  unfold f_X6_staff_b104 at hf
  refine r_iadd hC dX6_staff_104 ?_
  have hin := if_K hf
  have hf := if_V hf
  refine r_iast hC hz (z_r hZ hs3) (inb_vp hin) dX6_staff_105 ?_
  refine r_aload_n hC dX6_staff_106 0 rfl ?_
  refine gf_X6_16 hC (z_1 hZ 27 (by decide) rfl) rfl dX6_staff_107 ?_
  refine r_bipush (v := 6) hC dX6_staff_110 rfl ?_
  have hin := if_K hf
  have hf := if_V hf
  refine r_iald hC (z_1 hZ 30 (by decide) rfl) (inb_vp hin) dX6_staff_112 ?_
  exact r_iret hf hC (by decide) (by decide) dX6_staff_113
set_option maxRecDepth 20000 in
theorem w_X6_staff_b87 {X : XX} {G : GG} {Z : ZZ} {r : Int32} {M' : Mem} (hC : Cx X G RX6 cX6_staff (some .int) 2 0 0 3) (hz : ZOk G Z) (hZ : ZM Z) (v1 : Int32) (M : Mem) (hf : f_X6_staff_b87 v1 M = some (r, M')) : V X G Z M 0 0 (QN X G (QcI G Z r M') 0 0) 87 [(0, .ref (Z.1 27)), (1, .int v1)] [] := by
  unfold f_X6_staff_b87 at hf
  refine r_aload_n hC dX6_staff_87 0 rfl ?_
  refine gf_X6_16 hC (z_1 hZ 27 (by decide) rfl) rfl dX6_staff_88 ?_
  refine r_bipush (v := 6) hC dX6_staff_91 rfl ?_
  refine r_dup2 hC dX6_staff_93 rfl rfl ?_
  have hin := if_K hf
  have hf := if_V hf
  refine r_iald hC (z_1 hZ 30 (by decide) rfl) (inb_vp hin) dX6_staff_94 ?_
  refine r_iload_n hC dX6_staff_95 1 rfl ?_
  refine r_if_eq 103 hC dX6_staff_96 (by decide) (fun h => ?_) (fun h => ?_)
  · have hf := if_T hf h
    refine r_iconst (v := 0) hC dX6_staff_103 rfl ?_
    refine r_L [0] rfl ?_
    exact w_X6_staff_b104 hC hz hZ 0 (M 30 (Int32.toNatClampNeg 6)) 6 30 ⟨by decide, rfl⟩ _ hf
  · have hf := if_F hf h
    refine r_iconst (v := 1) hC dX6_staff_99 rfl ?_
    refine r_goto 104 hC dX6_staff_100 (by decide) ?_
    refine r_L [0] rfl ?_
    exact w_X6_staff_b104 hC hz hZ 1 (M 30 (Int32.toNatClampNeg 6)) 6 30 ⟨by decide, rfl⟩ _ hf
set_option maxRecDepth 20000 in
theorem w_X6_staff_b54 {X : XX} {G : GG} {Z : ZZ} {r : Int32} {M' : Mem} (hC : Cx X G RX6 cX6_staff (some .int) 2 0 0 3) (hz : ZOk G Z) (hZ : ZM Z) (v1 : Int32) (k54 : Int32 → Mem → Option (Int32 × Mem)) (hk54 : ∀ (u2 : Int32) (M : Mem), k54 u2 M = some (r, M') → V X G Z M 0 0 (QN X G (QcI G Z r M') 0 0) 54 [(0, .ref (Z.1 27)), (1, .int v1), (2, .int u2)] []) (v2 : Int32) (M : Mem) (hf : f_X6_staff_b54 v1 k54 v2 M = some (r, M')) : V X G Z M 0 0 (QN X G (QcI G Z r M') 0 0) 54 [(0, .ref (Z.1 27)), (1, .int v1), (2, .int v2)] [] := by
  unfold f_X6_staff_b54 at hf
  refine r_iload_n hC dX6_staff_54 2 rfl ?_
  refine r_bipush (v := 16) hC dX6_staff_55 rfl ?_
  refine r_icmp_ge 87 hC dX6_staff_57 (by decide) (fun h => ?_) (fun h => ?_)
  · have hf := if_T hf h
    refine r_L [0, 1] rfl ?_
    exact w_X6_staff_b87 hC hz hZ v1 _ hf
  · have hf := if_F hf h
    refine r_aload_n hC dX6_staff_60 0 rfl ?_
    refine gf_X6_16 hC (z_1 hZ 27 (by decide) rfl) rfl dX6_staff_61 ?_
    refine r_bipush (v := 8) hC dX6_staff_64 rfl ?_
    refine r_aload_n hC dX6_staff_66 0 rfl ?_
    refine gf_X6_16 hC (z_1 hZ 27 (by decide) rfl) rfl dX6_staff_67 ?_
    refine r_bipush (v := 6) hC dX6_staff_70 rfl ?_
    have hin := if_K hf
    have hf := if_V hf
    refine r_iald hC (z_1 hZ 30 (by decide) rfl) (inb_vp hin) dX6_staff_72 ?_
    refine r_iload_n hC dX6_staff_73 2 rfl ?_
    refine r_callSI [.int 8, .ref (Z.1 30)] (fun r M1 h => c_X6_at (cx_st hC) hz hZ (M 30 (Int32.toNatClampNeg 6)) v2 _  r M1 h) hf cs_X6_70 hC  rfl rfl (by decide) (by decide) (Nat.le_of_ble_eq_true rfl) (by decide) (by decide) dX6_staff_74 (fun x5 M6 hf => ?_)
    refine r_iadd hC dX6_staff_77 ?_
    refine r_bipush (v := (-9)) hC dX6_staff_78 rfl ?_
    have hin := if_K hf
    have hf := if_V hf
    refine r_iast hC hz (z_1 hZ 30 (by decide) rfl) (inb_vp hin) dX6_staff_80 ?_
    refine r_iinc (v := v2 + 1) (L' := [(2, .int (v2 + 1)), (0, .ref (Z.1 27)), (1, .int v1)]) hC dX6_staff_81 2 rfl rfl (by decide) rfl ?_
    refine r_goto 54 hC dX6_staff_84 (by decide) ?_
    refine r_L [1, 2, 0] rfl ?_
    exact hk54 _ _ hf
set_option maxRecDepth 20000 in
theorem w_X6_staff_b52 {X : XX} {G : GG} {Z : ZZ} {r : Int32} {M' : Mem} (hC : Cx X G RX6 cX6_staff (some .int) 2 0 0 3) (hz : ZOk G Z) (hZ : ZM Z) (v1 : Int32) (M : Mem) (hf : f_X6_staff_b52 v1 M = some (r, M')) : V X G Z M 0 0 (QN X G (QcI G Z r M') 0 0) 52 [(0, .ref (Z.1 27)), (1, .int v1)] [] := by
  unfold f_X6_staff_b52 at hf
  refine r_iconst (v := 0) hC dX6_staff_52 rfl ?_
  refine r_istore_n (L' := [(2, .int 0), (0, .ref (Z.1 27)), (1, .int v1)]) hC dX6_staff_53 (by decide) rfl ?_
  refine r_L [1, 2, 0] rfl ?_
  exact lq1_ind (P := fun (u2 : Int32) (M : Mem) => V X G Z M 0 0 (QN X G (QcI G Z r M') 0 0) 54 [(0, .ref (Z.1 27)), (1, .int v1), (2, .int u2)] []) (fun kk hkk u2 M hf => w_X6_staff_b54 hC hz hZ v1 kk hkk u2 M hf) _ _ _ hf
set_option maxRecDepth 20000 in
theorem w_X6_staff_b25 {X : XX} {G : GG} {Z : ZZ} {r : Int32} {M' : Mem} (hC : Cx X G RX6 cX6_staff (some .int) 2 0 0 3) (hz : ZOk G Z) (hZ : ZM Z) (v1 : Int32) (s0 : Int32) (M : Mem) (hf : f_X6_staff_b25 v1 s0 M = some (r, M')) : V X G Z M 0 0 (QN X G (QcI G Z r M') 0 0) 25 [(0, .ref (Z.1 27)), (1, .int v1)] [.int s0, .ref (Z.1 27)] := by
  unfold f_X6_staff_b25 at hf
  refine r_callVI [] (fun r M1 h => c_X6_refused (cx_st hC) hz hZ s0 _  r M1 h) hf cs_X6_169 hC (z_1 hZ 27 (by decide) rfl) (q0 := (RX6, TX6, 19)) rfl rfl [.int s0] rfl rfl rfl (by decide) (by decide) (Nat.le_of_ble_eq_true rfl) (by decide) (by decide) dX6_staff_25 (fun x1 M2 hf => ?_)
  refine r_if_eq 33 hC dX6_staff_28 (by decide) (fun h => ?_) (fun h => ?_)
  · have hf := if_T hf h
    refine r_aload_n hC dX6_staff_33 0 rfl ?_
    refine r_callVV [] (fun r M1 h => c_X6_remember (cx_st hC) hz hZ  _  r M1 h) hf cs_X6_220 hC (z_1 hZ 27 (by decide) rfl) (q0 := (RX6, TX6, 19)) rfl rfl [] rfl rfl rfl (by decide) (by decide) (Nat.le_of_ble_eq_true rfl) (by decide) (by decide) dX6_staff_34 (fun x3 M4 hf => ?_)
    refine r_iload_n hC dX6_staff_37 1 rfl ?_
    refine r_if_ne 52 hC dX6_staff_38 (by decide) (fun h => ?_) (fun h => ?_)
    · have hf := if_F hf h
      exact w_X6_staff_b52 hC hz hZ v1 _ hf
    · have hf := if_T hf h
      refine r_aload_n hC dX6_staff_41 0 rfl ?_
      refine gf_X6_16 hC (z_1 hZ 27 (by decide) rfl) rfl dX6_staff_42 ?_
      refine r_bipush (v := 6) hC dX6_staff_45 rfl ?_
      refine r_dup2 hC dX6_staff_47 rfl rfl ?_
      have hin := if_K hf
      have hf := if_V hf
      refine r_iald hC (z_1 hZ 30 (by decide) rfl) (inb_vp hin) dX6_staff_48 ?_
      refine r_iconst (v := 1) hC dX6_staff_49 rfl ?_
      refine r_isub hC dX6_staff_50 ?_
      have hin := if_K hf
      have hf := if_V hf
      refine r_iast hC hz (z_1 hZ 30 (by decide) rfl) (inb_vp hin) dX6_staff_51 ?_
      exact w_X6_staff_b52 hC hz hZ v1 _ hf
  · have hf := if_F hf h
    refine r_iconst (v := 0) hC dX6_staff_31 rfl ?_
    exact r_iret hf hC (by decide) (by decide) dX6_staff_32
set_option maxRecDepth 20000 in
theorem w_X6_staff_b17 {X : XX} {G : GG} {Z : ZZ} {r : Int32} {M' : Mem} (hC : Cx X G RX6 cX6_staff (some .int) 2 0 0 3) (hz : ZOk G Z) (hZ : ZM Z) (v1 : Int32) (s0 : Int32) (s1 : Int32) (M : Mem) (hf : f_X6_staff_b17 v1 s0 s1 M = some (r, M')) : V X G Z M 0 0 (QN X G (QcI G Z r M') 0 0) 17 [(0, .ref (Z.1 27)), (1, .int v1)] [.int s0, .int s1, .ref (Z.1 27)] := by
  unfold f_X6_staff_b17 at hf
  refine r_icmp_ne 24 hC dX6_staff_17 (by decide) (fun h => ?_) (fun h => ?_)
  · have hf := if_F hf h
    refine r_iconst (v := 0) hC dX6_staff_24 rfl ?_
    exact w_X6_staff_b25 hC hz hZ v1 0 _ hf
  · have hf := if_T hf h
    refine r_iconst (v := 1) hC dX6_staff_20 rfl ?_
    refine r_goto 25 hC dX6_staff_21 (by decide) ?_
    exact w_X6_staff_b25 hC hz hZ v1 1 _ hf
set_option maxRecDepth 20000 in
theorem w_X6_staff {X : XX} {G : GG} {Z : ZZ} (hC : Cx X G RX6 cX6_staff (some .int) 2 0 0 3) (hz : ZOk G Z) (hZ : ZM Z) (v1 : Int32) (M : Mem)  {r : Int32} {M' : Mem} (hf : f_X6_staff v1 M = some (r, M')) : V X G Z M 0 0 (QN X G (QcI G Z r M') 0 0) 0 [(0, .ref (Z.1 27)), (1, .int v1)] [] := by
  unfold f_X6_staff at hf
  refine r_aload_n hC dX6_staff_0 0 rfl ?_
  refine r_aload_n hC dX6_staff_1 0 rfl ?_
  refine gf_X6_16 hC (z_1 hZ 27 (by decide) rfl) rfl dX6_staff_2 ?_
  refine r_bipush (v := 6) hC dX6_staff_5 rfl ?_
  have hin := if_K hf
  have hf := if_V hf
  refine r_iald hC (z_1 hZ 30 (by decide) rfl) (inb_vp hin) dX6_staff_7 ?_
  refine r_iload_n hC dX6_staff_8 1 rfl ?_
  refine r_if_eq 16 hC dX6_staff_9 (by decide) (fun h => ?_) (fun h => ?_)
  · have hf := if_T hf h
    refine r_iconst (v := 1) hC dX6_staff_16 rfl ?_
    exact w_X6_staff_b17 hC hz hZ v1 1 (M 30 (Int32.toNatClampNeg 6)) _ hf
  · have hf := if_F hf h
    refine r_iconst (v := 4) hC dX6_staff_12 rfl ?_
    refine r_goto 17 hC dX6_staff_13 (by decide) ?_
    exact w_X6_staff_b17 hC hz hZ v1 4 (M 30 (Int32.toNatClampNeg 6)) _ hf
set_option maxRecDepth 20000 in
theorem c_X6_staff {l : Launch} (hl : l.stackTraces = false) {G : GG} {Z : ZZ} (hz : ZOk G Z) (hZ : ZM Z) (v1 : Int32) (M : Mem)  (r : Int32) (M' : Mem) (hf : f_X6_staff v1 M = some (r, M')) : CN (QcI G Z r M') l G Z yX6_staff cX6_staff 3 (some .int) 2 [.ref (Z.1 27), .int v1] M :=
  CN.of [(0, .ref (Z.1 27)), (1, .int v1)] hl (by decide +kernel) (Nat.le_of_ble_eq_true rfl) rfl (fun _ hC => w_X6_staff hC hz hZ v1 M  hf)
set_option maxRecDepth 20000 in
theorem w_X6_insertBeat_b111 {X : XX} {G : GG} {Z : ZZ} {r : Int32} {M' : Mem} (hC : Cx X G RX6 cX6_insertBeat (some .int) 2 0 0 4) (hz : ZOk G Z) (hZ : ZM Z) (v1 : Int32) (v2 : Int32) (k53 : Int32 → Mem → Option (Int32 × Mem)) (hk53 : ∀ (u2 : Int32) (M : Mem), k53 u2 M = some (r, M') → V X G Z M 0 0 (QN X G (QcI G Z r M') 0 0) 53 [(0, .ref (Z.1 27)), (1, .int v1), (2, .int u2)] []) (M : Mem) (hf : f_X6_insertBeat_b111 v1 v2 k53 M = some (r, M')) : V X G Z M 0 0 (QN X G (QcI G Z r M') 0 0) 111 [(0, .ref (Z.1 27)), (1, .int v1), (2, .int v2)] [] := by
  unfold f_X6_insertBeat_b111 at hf
  refine r_aload_n hC dX6_insertBeat_111 0 rfl ?_
  refine gf_X6_16 hC (z_1 hZ 27 (by decide) rfl) rfl dX6_insertBeat_112 ?_
  refine r_bipush (v := 8) hC dX6_insertBeat_115 rfl ?_
  refine r_iload_n hC dX6_insertBeat_117 2 rfl ?_
  refine r_iload_n hC dX6_insertBeat_118 1 rfl ?_
  refine r_callSI [.int 8, .ref (Z.1 30)] (fun r M1 h => c_X6_at (cx_st hC) hz hZ v2 v1 _  r M1 h) hf cs_X6_70 hC  rfl rfl (by decide) (by decide) (Nat.le_of_ble_eq_true rfl) (by decide) (by decide) dX6_insertBeat_119 (fun x13 M14 hf => ?_)
  refine r_iadd hC dX6_insertBeat_122 ?_
  refine r_bipush (v := (-9)) hC dX6_insertBeat_123 rfl ?_
  have hin := if_K hf
  have hf := if_V hf
  refine r_iast hC hz (z_1 hZ 30 (by decide) rfl) (inb_vp hin) dX6_insertBeat_125 ?_
  refine r_iinc (v := v2 + 1) (L' := [(2, .int (v2 + 1)), (0, .ref (Z.1 27)), (1, .int v1)]) hC dX6_insertBeat_126 2 rfl rfl (by decide) rfl ?_
  refine r_goto 53 hC dX6_insertBeat_129 (by decide) ?_
  refine r_L [1, 2, 0] rfl ?_
  exact hk53 _ _ hf
set_option maxRecDepth 20000 in
theorem w_X6_insertBeat_b72 {X : XX} {G : GG} {Z : ZZ} {r : Int32} {M' : Mem} (hC : Cx X G RX6 cX6_insertBeat (some .int) 2 0 0 4) (hz : ZOk G Z) (hZ : ZM Z) (v1 : Int32) (v2 : Int32) (k53 : Int32 → Mem → Option (Int32 × Mem)) (hk53 : ∀ (u2 : Int32) (M : Mem), k53 u2 M = some (r, M') → V X G Z M 0 0 (QN X G (QcI G Z r M') 0 0) 53 [(0, .ref (Z.1 27)), (1, .int v1), (2, .int u2)] []) (k72 : Int32 → Mem → Option (Int32 × Mem)) (hk72 : ∀ (u3 : Int32) (M : Mem), k72 u3 M = some (r, M') → V X G Z M 0 0 (QN X G (QcI G Z r M') 0 0) 72 [(0, .ref (Z.1 27)), (1, .int v1), (2, .int v2), (3, .int u3)] []) (v3 : Int32) (M : Mem) (hf : f_X6_insertBeat_b72 v1 v2 k53 k72 v3 M = some (r, M')) : V X G Z M 0 0 (QN X G (QcI G Z r M') 0 0) 72 [(0, .ref (Z.1 27)), (1, .int v1), (2, .int v2), (3, .int v3)] [] := by
  unfold f_X6_insertBeat_b72 at hf
  refine r_iload_n hC dX6_insertBeat_72 3 rfl ?_
  refine r_iload_n hC dX6_insertBeat_73 1 rfl ?_
  refine r_icmp_le 111 hC dX6_insertBeat_74 (by decide) (fun h => ?_) (fun h => ?_)
  · have hf := if_T hf h
    refine r_L [0, 1, 2] rfl ?_
    exact w_X6_insertBeat_b111 hC hz hZ v1 v2 k53 hk53 _ hf
  · have hf := if_F hf h
    refine r_aload_n hC dX6_insertBeat_77 0 rfl ?_
    refine gf_X6_16 hC (z_1 hZ 27 (by decide) rfl) rfl dX6_insertBeat_78 ?_
    refine r_bipush (v := 8) hC dX6_insertBeat_81 rfl ?_
    refine r_iload_n hC dX6_insertBeat_83 2 rfl ?_
    refine r_iload_n hC dX6_insertBeat_84 3 rfl ?_
    refine r_callSI [.int 8, .ref (Z.1 30)] (fun r M1 h => c_X6_at (cx_st hC) hz hZ v2 v3 _  r M1 h) hf cs_X6_70 hC  rfl rfl (by decide) (by decide) (Nat.le_of_ble_eq_true rfl) (by decide) (by decide) dX6_insertBeat_85 (fun x9 M10 hf => ?_)
    refine r_iadd hC dX6_insertBeat_88 ?_
    refine r_aload_n hC dX6_insertBeat_89 0 rfl ?_
    refine gf_X6_16 hC (z_1 hZ 27 (by decide) rfl) rfl dX6_insertBeat_90 ?_
    refine r_bipush (v := 8) hC dX6_insertBeat_93 rfl ?_
    refine r_iload_n hC dX6_insertBeat_95 2 rfl ?_
    refine r_iload_n hC dX6_insertBeat_96 3 rfl ?_
    refine r_iconst (v := 1) hC dX6_insertBeat_97 rfl ?_
    refine r_isub hC dX6_insertBeat_98 ?_
    refine r_callSI [.int 8, .ref (Z.1 30), .int (8 + x9), .ref (Z.1 30)] (fun r M1 h => c_X6_at (cx_st hC) hz hZ v2 (v3 - 1) _  r M1 h) hf cs_X6_70 hC  rfl rfl (by decide) (by decide) (Nat.le_of_ble_eq_true rfl) (by decide) (by decide) dX6_insertBeat_99 (fun x11 M12 hf => ?_)
    refine r_iadd hC dX6_insertBeat_102 ?_
    have hin := if_K hf
    have hf := if_V hf
    refine r_iald hC (z_1 hZ 30 (by decide) rfl) (inb_vp hin) dX6_insertBeat_103 ?_
    have hin := if_K hf
    have hf := if_V hf
    refine r_iast hC hz (z_1 hZ 30 (by decide) rfl) (inb_vp hin) dX6_insertBeat_104 ?_
    refine r_iinc (v := v3 + (-1)) (L' := [(3, .int (v3 + (-1))), (0, .ref (Z.1 27)), (1, .int v1), (2, .int v2)]) hC dX6_insertBeat_105 3 rfl rfl (by decide) rfl ?_
    refine r_goto 72 hC dX6_insertBeat_108 (by decide) ?_
    refine r_L [1, 2, 3, 0] rfl ?_
    exact hk72 _ _ hf
set_option maxRecDepth 20000 in
theorem w_X6_insertBeat_b132 {X : XX} {G : GG} {Z : ZZ} {r : Int32} {M' : Mem} (hC : Cx X G RX6 cX6_insertBeat (some .int) 2 0 0 4) (hz : ZOk G Z) (hZ : ZM Z)  (M : Mem) (hf : f_X6_insertBeat_b132  M = some (r, M')) : V X G Z M 0 0 (QN X G (QcI G Z r M') 0 0) 132 [(0, .ref (Z.1 27))] [] := by
  unfold f_X6_insertBeat_b132 at hf
  refine r_aload_n hC dX6_insertBeat_132 0 rfl ?_
  refine gf_X6_16 hC (z_1 hZ 27 (by decide) rfl) rfl dX6_insertBeat_133 ?_
  refine r_bipush (v := 7) hC dX6_insertBeat_136 rfl ?_
  refine r_dup2 hC dX6_insertBeat_138 rfl rfl ?_
  have hin := if_K hf
  have hf := if_V hf
  refine r_iald hC (z_1 hZ 30 (by decide) rfl) (inb_vp hin) dX6_insertBeat_139 ?_
  refine r_iconst (v := 1) hC dX6_insertBeat_140 rfl ?_
  refine r_iadd hC dX6_insertBeat_141 ?_
  have hin := if_K hf
  have hf := if_V hf
  refine r_iast hC hz (z_1 hZ 30 (by decide) rfl) (inb_vp hin) dX6_insertBeat_142 ?_
  refine r_aload_n hC dX6_insertBeat_143 0 rfl ?_
  refine gf_X6_16 hC (z_1 hZ 27 (by decide) rfl) rfl dX6_insertBeat_144 ?_
  refine r_callSV [] (fun r M1 h => c_X6_mend (cx_st hC) hz hZ 30 _ ⟨by decide, rfl⟩ r M1 h) hf cs_X6_223 hC  rfl rfl (by decide) (by decide) (Nat.le_of_ble_eq_true rfl) (by decide) (by decide) dX6_insertBeat_147 (fun x7 M8 hf => ?_)
  refine r_aload_n hC dX6_insertBeat_150 0 rfl ?_
  refine gf_X6_16 hC (z_1 hZ 27 (by decide) rfl) rfl dX6_insertBeat_151 ?_
  refine r_bipush (v := 7) hC dX6_insertBeat_154 rfl ?_
  have hin := if_K hf
  have hf := if_V hf
  refine r_iald hC (z_1 hZ 30 (by decide) rfl) (inb_vp hin) dX6_insertBeat_156 ?_
  exact r_iret hf hC (by decide) (by decide) dX6_insertBeat_157
set_option maxRecDepth 20000 in
theorem w_X6_insertBeat_b53 {X : XX} {G : GG} {Z : ZZ} {r : Int32} {M' : Mem} (hC : Cx X G RX6 cX6_insertBeat (some .int) 2 0 0 4) (hz : ZOk G Z) (hZ : ZM Z) (v1 : Int32) (k53 : Int32 → Mem → Option (Int32 × Mem)) (hk53 : ∀ (u2 : Int32) (M : Mem), k53 u2 M = some (r, M') → V X G Z M 0 0 (QN X G (QcI G Z r M') 0 0) 53 [(0, .ref (Z.1 27)), (1, .int v1), (2, .int u2)] []) (v2 : Int32) (M : Mem) (hf : f_X6_insertBeat_b53 v1 k53 v2 M = some (r, M')) : V X G Z M 0 0 (QN X G (QcI G Z r M') 0 0) 53 [(0, .ref (Z.1 27)), (1, .int v1), (2, .int v2)] [] := by
  unfold f_X6_insertBeat_b53 at hf
  refine r_iload_n hC dX6_insertBeat_53 2 rfl ?_
  refine r_aload_n hC dX6_insertBeat_54 0 rfl ?_
  refine gf_X6_16 hC (z_1 hZ 27 (by decide) rfl) rfl dX6_insertBeat_55 ?_
  refine r_bipush (v := 6) hC dX6_insertBeat_58 rfl ?_
  have hin := if_K hf
  have hf := if_V hf
  refine r_iald hC (z_1 hZ 30 (by decide) rfl) (inb_vp hin) dX6_insertBeat_60 ?_
  refine r_icmp_ge 132 hC dX6_insertBeat_61 (by decide) (fun h => ?_) (fun h => ?_)
  · have hf := if_T hf h
    refine r_L [0] rfl ?_
    exact w_X6_insertBeat_b132 hC hz hZ  _ hf
  · have hf := if_F hf h
    refine r_aload_n hC dX6_insertBeat_64 0 rfl ?_
    refine gf_X6_16 hC (z_1 hZ 27 (by decide) rfl) rfl dX6_insertBeat_65 ?_
    refine r_bipush (v := 7) hC dX6_insertBeat_68 rfl ?_
    have hin := if_K hf
    have hf := if_V hf
    refine r_iald hC (z_1 hZ 30 (by decide) rfl) (inb_vp hin) dX6_insertBeat_70 ?_
    refine r_istore_n (L' := [(3, .int (M 30 (Int32.toNatClampNeg 7))), (0, .ref (Z.1 27)), (1, .int v1), (2, .int v2)]) hC dX6_insertBeat_71 (by decide) rfl ?_
    refine r_L [1, 2, 3, 0] rfl ?_
    exact lq1_ind (P := fun (u3 : Int32) (M : Mem) => V X G Z M 0 0 (QN X G (QcI G Z r M') 0 0) 72 [(0, .ref (Z.1 27)), (1, .int v1), (2, .int v2), (3, .int u3)] []) (fun kk hkk u3 M hf => w_X6_insertBeat_b72 hC hz hZ v1 v2 k53 hk53 kk hkk u3 M hf) _ _ _ hf
set_option maxRecDepth 20000 in
theorem w_X6_insertBeat_b39 {X : XX} {G : GG} {Z : ZZ} {r : Int32} {M' : Mem} (hC : Cx X G RX6 cX6_insertBeat (some .int) 2 0 0 4) (hz : ZOk G Z) (hZ : ZM Z) (v1 : Int32) (s0 : Int32) (M : Mem) (hf : f_X6_insertBeat_b39 v1 s0 M = some (r, M')) : V X G Z M 0 0 (QN X G (QcI G Z r M') 0 0) 39 [(0, .ref (Z.1 27)), (1, .int v1)] [.int s0, .ref (Z.1 27)] := by
  unfold f_X6_insertBeat_b39 at hf
  refine r_callVI [] (fun r M1 h => c_X6_refused (cx_st hC) hz hZ s0 _  r M1 h) hf cs_X6_169 hC (z_1 hZ 27 (by decide) rfl) (q0 := (RX6, TX6, 19)) rfl rfl [.int s0] rfl rfl rfl (by decide) (by decide) (Nat.le_of_ble_eq_true rfl) (by decide) (by decide) dX6_insertBeat_39 (fun x3 M4 hf => ?_)
  refine r_if_eq 47 hC dX6_insertBeat_42 (by decide) (fun h => ?_) (fun h => ?_)
  · have hf := if_T hf h
    refine r_aload_n hC dX6_insertBeat_47 0 rfl ?_
    refine r_callVV [] (fun r M1 h => c_X6_remember (cx_st hC) hz hZ  _  r M1 h) hf cs_X6_220 hC (z_1 hZ 27 (by decide) rfl) (q0 := (RX6, TX6, 19)) rfl rfl [] rfl rfl rfl (by decide) (by decide) (Nat.le_of_ble_eq_true rfl) (by decide) (by decide) dX6_insertBeat_48 (fun x5 M6 hf => ?_)
    refine r_iconst (v := 0) hC dX6_insertBeat_51 rfl ?_
    refine r_istore_n (L' := [(2, .int 0), (0, .ref (Z.1 27)), (1, .int v1)]) hC dX6_insertBeat_52 (by decide) rfl ?_
    refine r_L [1, 2, 0] rfl ?_
    exact lq1_ind (P := fun (u2 : Int32) (M : Mem) => V X G Z M 0 0 (QN X G (QcI G Z r M') 0 0) 53 [(0, .ref (Z.1 27)), (1, .int v1), (2, .int u2)] []) (fun kk hkk u2 M hf => w_X6_insertBeat_b53 hC hz hZ v1 kk hkk u2 M hf) _ _ _ hf
  · have hf := if_F hf h
    refine r_iconst (v := 0) hC dX6_insertBeat_45 rfl ?_
    exact r_iret hf hC (by decide) (by decide) dX6_insertBeat_46
set_option maxRecDepth 20000 in
theorem w_X6_insertBeat {X : XX} {G : GG} {Z : ZZ} (hC : Cx X G RX6 cX6_insertBeat (some .int) 2 0 0 4) (hz : ZOk G Z) (hZ : ZM Z) (v1 : Int32) (M : Mem)  {r : Int32} {M' : Mem} (hf : f_X6_insertBeat v1 M = some (r, M')) : V X G Z M 0 0 (QN X G (QcI G Z r M') 0 0) 0 [(0, .ref (Z.1 27)), (1, .int v1)] [] := by
  unfold f_X6_insertBeat at hf
  refine r_aload_n hC dX6_insertBeat_0 0 rfl ?_
  refine r_iload_n hC dX6_insertBeat_1 1 rfl ?_
  refine r_i2l hC dX6_insertBeat_2 ?_
  refine r_lconst (v := 0) hC dX6_insertBeat_3 rfl ?_
  refine r_aload_n hC dX6_insertBeat_4 0 rfl ?_
  refine gf_X6_16 hC (z_1 hZ 27 (by decide) rfl) rfl dX6_insertBeat_5 ?_
  refine r_bipush (v := 7) hC dX6_insertBeat_8 rfl ?_
  have hin := if_K hf
  have hf := if_V hf
  refine r_iald hC (z_1 hZ 30 (by decide) rfl) (inb_vp hin) dX6_insertBeat_10 ?_
  refine r_i2l hC dX6_insertBeat_11 ?_
  refine r_callSI [.ref (Z.1 27)] (fun r M1 h => c_X6_in (cx_st hC) hz hZ (Int32.toInt64 v1) 0 (Int32.toInt64 (M 30 (Int32.toNatClampNeg 7))) _  r M1 h) hf cs_X6_66 hC  rfl rfl (by decide) (by decide) (Nat.le_of_ble_eq_true rfl) (by decide) (by decide) dX6_insertBeat_12 (fun x1 M2 hf => ?_)
  refine r_if_ne 22 hC dX6_insertBeat_15 (by decide) (fun h => ?_) (fun h => ?_)
  · have hf := if_F hf h
    refine r_aload_n hC dX6_insertBeat_22 0 rfl ?_
    refine gf_X6_16 hC (z_1 hZ 27 (by decide) rfl) rfl dX6_insertBeat_23 ?_
    refine r_bipush (v := 7) hC dX6_insertBeat_26 rfl ?_
    have hin := if_K hf
    have hf := if_V hf
    refine r_iald hC (z_1 hZ 30 (by decide) rfl) (inb_vp hin) dX6_insertBeat_28 ?_
    refine r_bipush (v := 16) hC dX6_insertBeat_29 rfl ?_
    refine r_icmp_ne 38 hC dX6_insertBeat_31 (by decide) (fun h => ?_) (fun h => ?_)
    · have hf := if_F hf h
      refine r_iconst (v := 0) hC dX6_insertBeat_38 rfl ?_
      exact w_X6_insertBeat_b39 hC hz hZ v1 0 _ hf
    · have hf := if_T hf h
      refine r_iconst (v := 2) hC dX6_insertBeat_34 rfl ?_
      refine r_goto 39 hC dX6_insertBeat_35 (by decide) ?_
      exact w_X6_insertBeat_b39 hC hz hZ v1 2 _ hf
  · have hf := if_T hf h
    refine r_iconst (v := 1) hC dX6_insertBeat_18 rfl ?_
    refine r_goto 39 hC dX6_insertBeat_19 (by decide) ?_
    exact w_X6_insertBeat_b39 hC hz hZ v1 1 _ hf
set_option maxRecDepth 20000 in
theorem c_X6_insertBeat {l : Launch} (hl : l.stackTraces = false) {G : GG} {Z : ZZ} (hz : ZOk G Z) (hZ : ZM Z) (v1 : Int32) (M : Mem)  (r : Int32) (M' : Mem) (hf : f_X6_insertBeat v1 M = some (r, M')) : CN (QcI G Z r M') l G Z yX6_insertBeat cX6_insertBeat 4 (some .int) 2 [.ref (Z.1 27), .int v1] M :=
  CN.of [(0, .ref (Z.1 27)), (1, .int v1)] hl (by decide +kernel) (Nat.le_of_ble_eq_true rfl) rfl (fun _ hC => w_X6_insertBeat hC hz hZ v1 M  hf)
set_option maxRecDepth 20000 in
theorem w_X6_dropBeat_b50 {X : XX} {G : GG} {Z : ZZ} {r : Unit} {M' : Mem} (hC : Cx X G RX6 cX6_dropBeat none 2 0 0 4) (hz : ZOk G Z) (hZ : ZM Z) (r0 : Nat) (v1 : Int32) (v2 : Int32) (hr0 : ArI r0) (k2 : Int32 → Mem → Option (Unit × Mem)) (hk2 : ∀ (u2 : Int32) (M : Mem), k2 u2 M = some (r, M') → V X G Z M 0 0 (QN X G (QcV G Z r M') 0 0) 2 [(0, .ref (Z.1 r0)), (1, .int v1), (2, .int u2)] []) (M : Mem) (hf : f_X6_dropBeat_b50 r0 v1 v2 k2 M = some (r, M')) : V X G Z M 0 0 (QN X G (QcV G Z r M') 0 0) 50 [(0, .ref (Z.1 r0)), (1, .int v1), (2, .int v2)] [] := by
  unfold f_X6_dropBeat_b50 at hf
  refine r_aload_n hC dX6_dropBeat_50 0 rfl ?_
  refine r_bipush (v := 8) hC dX6_dropBeat_51 rfl ?_
  refine r_iload_n hC dX6_dropBeat_53 2 rfl ?_
  refine r_aload_n hC dX6_dropBeat_54 0 rfl ?_
  refine r_bipush (v := 7) hC dX6_dropBeat_55 rfl ?_
  have hin := if_K hf
  have hf := if_V hf
  refine r_iald hC (z_r hZ hr0) (inb_vp hin) dX6_dropBeat_57 ?_
  refine r_iconst (v := 1) hC dX6_dropBeat_58 rfl ?_
  refine r_isub hC dX6_dropBeat_59 ?_
  refine r_callSI [.int 8, .ref (Z.1 r0)] (fun r M1 h => c_X6_at (cx_st hC) hz hZ v2 ((M r0 (Int32.toNatClampNeg 7)) - 1) _  r M1 h) hf cs_X6_70 hC  rfl rfl (by decide) (by decide) (Nat.le_of_ble_eq_true rfl) (by decide) (by decide) dX6_dropBeat_60 (fun x7 M8 hf => ?_)
  refine r_iadd hC dX6_dropBeat_63 ?_
  refine r_bipush (v := (-9)) hC dX6_dropBeat_64 rfl ?_
  have hin := if_K hf
  have hf := if_V hf
  refine r_iast hC hz (z_r hZ hr0) (inb_vp hin) dX6_dropBeat_66 ?_
  refine r_iinc (v := v2 + 1) (L' := [(2, .int (v2 + 1)), (0, .ref (Z.1 r0)), (1, .int v1)]) hC dX6_dropBeat_67 2 rfl rfl (by decide) rfl ?_
  refine r_goto 2 hC dX6_dropBeat_70 (by decide) ?_
  refine r_L [1, 2, 0] rfl ?_
  exact hk2 _ _ hf
set_option maxRecDepth 20000 in
theorem w_X6_dropBeat_b12 {X : XX} {G : GG} {Z : ZZ} {r : Unit} {M' : Mem} (hC : Cx X G RX6 cX6_dropBeat none 2 0 0 4) (hz : ZOk G Z) (hZ : ZM Z) (r0 : Nat) (v1 : Int32) (v2 : Int32) (hr0 : ArI r0) (k2 : Int32 → Mem → Option (Unit × Mem)) (hk2 : ∀ (u2 : Int32) (M : Mem), k2 u2 M = some (r, M') → V X G Z M 0 0 (QN X G (QcV G Z r M') 0 0) 2 [(0, .ref (Z.1 r0)), (1, .int v1), (2, .int u2)] []) (k12 : Int32 → Mem → Option (Unit × Mem)) (hk12 : ∀ (u3 : Int32) (M : Mem), k12 u3 M = some (r, M') → V X G Z M 0 0 (QN X G (QcV G Z r M') 0 0) 12 [(0, .ref (Z.1 r0)), (1, .int v1), (2, .int v2), (3, .int u3)] []) (v3 : Int32) (M : Mem) (hf : f_X6_dropBeat_b12 r0 v1 v2 k2 k12 v3 M = some (r, M')) : V X G Z M 0 0 (QN X G (QcV G Z r M') 0 0) 12 [(0, .ref (Z.1 r0)), (1, .int v1), (2, .int v2), (3, .int v3)] [] := by
  unfold f_X6_dropBeat_b12 at hf
  refine r_iload_n hC dX6_dropBeat_12 3 rfl ?_
  refine r_iconst (v := 1) hC dX6_dropBeat_13 rfl ?_
  refine r_iadd hC dX6_dropBeat_14 ?_
  refine r_aload_n hC dX6_dropBeat_15 0 rfl ?_
  refine r_bipush (v := 7) hC dX6_dropBeat_16 rfl ?_
  have hin := if_K hf
  have hf := if_V hf
  refine r_iald hC (z_r hZ hr0) (inb_vp hin) dX6_dropBeat_18 ?_
  refine r_icmp_ge 50 hC dX6_dropBeat_19 (by decide) (fun h => ?_) (fun h => ?_)
  · have hf := if_T hf h
    refine r_L [0, 1, 2] rfl ?_
    exact w_X6_dropBeat_b50 hC hz hZ r0 v1 v2 hr0 k2 hk2 _ hf
  · have hf := if_F hf h
    refine r_aload_n hC dX6_dropBeat_22 0 rfl ?_
    refine r_bipush (v := 8) hC dX6_dropBeat_23 rfl ?_
    refine r_iload_n hC dX6_dropBeat_25 2 rfl ?_
    refine r_iload_n hC dX6_dropBeat_26 3 rfl ?_
    refine r_callSI [.int 8, .ref (Z.1 r0)] (fun r M1 h => c_X6_at (cx_st hC) hz hZ v2 v3 _  r M1 h) hf cs_X6_70 hC  rfl rfl (by decide) (by decide) (Nat.le_of_ble_eq_true rfl) (by decide) (by decide) dX6_dropBeat_27 (fun x3 M4 hf => ?_)
    refine r_iadd hC dX6_dropBeat_30 ?_
    refine r_aload_n hC dX6_dropBeat_31 0 rfl ?_
    refine r_bipush (v := 8) hC dX6_dropBeat_32 rfl ?_
    refine r_iload_n hC dX6_dropBeat_34 2 rfl ?_
    refine r_iload_n hC dX6_dropBeat_35 3 rfl ?_
    refine r_iconst (v := 1) hC dX6_dropBeat_36 rfl ?_
    refine r_iadd hC dX6_dropBeat_37 ?_
    refine r_callSI [.int 8, .ref (Z.1 r0), .int (8 + x3), .ref (Z.1 r0)] (fun r M1 h => c_X6_at (cx_st hC) hz hZ v2 (v3 + 1) _  r M1 h) hf cs_X6_70 hC  rfl rfl (by decide) (by decide) (Nat.le_of_ble_eq_true rfl) (by decide) (by decide) dX6_dropBeat_38 (fun x5 M6 hf => ?_)
    refine r_iadd hC dX6_dropBeat_41 ?_
    have hin := if_K hf
    have hf := if_V hf
    refine r_iald hC (z_r hZ hr0) (inb_vp hin) dX6_dropBeat_42 ?_
    have hin := if_K hf
    have hf := if_V hf
    refine r_iast hC hz (z_r hZ hr0) (inb_vp hin) dX6_dropBeat_43 ?_
    refine r_iinc (v := v3 + 1) (L' := [(3, .int (v3 + 1)), (0, .ref (Z.1 r0)), (1, .int v1), (2, .int v2)]) hC dX6_dropBeat_44 3 rfl rfl (by decide) rfl ?_
    refine r_goto 12 hC dX6_dropBeat_47 (by decide) ?_
    refine r_L [1, 2, 3, 0] rfl ?_
    exact hk12 _ _ hf
set_option maxRecDepth 20000 in
theorem w_X6_dropBeat_b73 {X : XX} {G : GG} {Z : ZZ} {r : Unit} {M' : Mem} (hC : Cx X G RX6 cX6_dropBeat none 2 0 0 4) (hz : ZOk G Z) (hZ : ZM Z) (r0 : Nat) (hr0 : ArI r0) (M : Mem) (hf : f_X6_dropBeat_b73 r0 M = some (r, M')) : V X G Z M 0 0 (QN X G (QcV G Z r M') 0 0) 73 [(0, .ref (Z.1 r0))] [] := by
  unfold f_X6_dropBeat_b73 at hf
  refine r_aload_n hC dX6_dropBeat_73 0 rfl ?_
  refine r_bipush (v := 7) hC dX6_dropBeat_74 rfl ?_
  refine r_dup2 hC dX6_dropBeat_76 rfl rfl ?_
  have hin := if_K hf
  have hf := if_V hf
  refine r_iald hC (z_r hZ hr0) (inb_vp hin) dX6_dropBeat_77 ?_
  refine r_iconst (v := 1) hC dX6_dropBeat_78 rfl ?_
  refine r_isub hC dX6_dropBeat_79 ?_
  have hin := if_K hf
  have hf := if_V hf
  refine r_iast hC hz (z_r hZ hr0) (inb_vp hin) dX6_dropBeat_80 ?_
  refine r_aload_n hC dX6_dropBeat_81 0 rfl ?_
  refine r_callSV [] (fun r M1 h => c_X6_mend (cx_st hC) hz hZ r0 _ hr0 r M1 h) hf cs_X6_223 hC  rfl rfl (by decide) (by decide) (Nat.le_of_ble_eq_true rfl) (by decide) (by decide) dX6_dropBeat_82 (fun x1 M2 hf => ?_)
  exact r_vret hf hC (by decide) (by decide) dX6_dropBeat_85
set_option maxRecDepth 20000 in
theorem w_X6_dropBeat_b2 {X : XX} {G : GG} {Z : ZZ} {r : Unit} {M' : Mem} (hC : Cx X G RX6 cX6_dropBeat none 2 0 0 4) (hz : ZOk G Z) (hZ : ZM Z) (r0 : Nat) (v1 : Int32) (hr0 : ArI r0) (k2 : Int32 → Mem → Option (Unit × Mem)) (hk2 : ∀ (u2 : Int32) (M : Mem), k2 u2 M = some (r, M') → V X G Z M 0 0 (QN X G (QcV G Z r M') 0 0) 2 [(0, .ref (Z.1 r0)), (1, .int v1), (2, .int u2)] []) (v2 : Int32) (M : Mem) (hf : f_X6_dropBeat_b2 r0 v1 k2 v2 M = some (r, M')) : V X G Z M 0 0 (QN X G (QcV G Z r M') 0 0) 2 [(0, .ref (Z.1 r0)), (1, .int v1), (2, .int v2)] [] := by
  unfold f_X6_dropBeat_b2 at hf
  refine r_iload_n hC dX6_dropBeat_2 2 rfl ?_
  refine r_aload_n hC dX6_dropBeat_3 0 rfl ?_
  refine r_bipush (v := 6) hC dX6_dropBeat_4 rfl ?_
  have hin := if_K hf
  have hf := if_V hf
  refine r_iald hC (z_r hZ hr0) (inb_vp hin) dX6_dropBeat_6 ?_
  refine r_icmp_ge 73 hC dX6_dropBeat_7 (by decide) (fun h => ?_) (fun h => ?_)
  · have hf := if_T hf h
    refine r_L [0] rfl ?_
    exact w_X6_dropBeat_b73 hC hz hZ r0 hr0 _ hf
  · have hf := if_F hf h
    refine r_iload_n hC dX6_dropBeat_10 1 rfl ?_
    refine r_istore_n (L' := [(3, .int v1), (0, .ref (Z.1 r0)), (1, .int v1), (2, .int v2)]) hC dX6_dropBeat_11 (by decide) rfl ?_
    refine r_L [1, 2, 3, 0] rfl ?_
    exact lq1_ind (P := fun (u3 : Int32) (M : Mem) => V X G Z M 0 0 (QN X G (QcV G Z r M') 0 0) 12 [(0, .ref (Z.1 r0)), (1, .int v1), (2, .int v2), (3, .int u3)] []) (fun kk hkk u3 M hf => w_X6_dropBeat_b12 hC hz hZ r0 v1 v2 hr0 k2 hk2 kk hkk u3 M hf) _ _ _ hf
set_option maxRecDepth 20000 in
theorem w_X6_dropBeat {X : XX} {G : GG} {Z : ZZ} (hC : Cx X G RX6 cX6_dropBeat none 2 0 0 4) (hz : ZOk G Z) (hZ : ZM Z) (r0 : Nat) (v1 : Int32) (M : Mem) (hr0 : ArI r0) {r : Unit} {M' : Mem} (hf : f_X6_dropBeat r0 v1 M = some (r, M')) : V X G Z M 0 0 (QN X G (QcV G Z r M') 0 0) 0 [(0, .ref (Z.1 r0)), (1, .int v1)] [] := by
  unfold f_X6_dropBeat at hf
  refine r_iconst (v := 0) hC dX6_dropBeat_0 rfl ?_
  refine r_istore_n (L' := [(2, .int 0), (0, .ref (Z.1 r0)), (1, .int v1)]) hC dX6_dropBeat_1 (by decide) rfl ?_
  refine r_L [1, 2, 0] rfl ?_
  exact lq1_ind (P := fun (u2 : Int32) (M : Mem) => V X G Z M 0 0 (QN X G (QcV G Z r M') 0 0) 2 [(0, .ref (Z.1 r0)), (1, .int v1), (2, .int u2)] []) (fun kk hkk u2 M hf => w_X6_dropBeat_b2 hC hz hZ r0 v1 hr0 kk hkk u2 M hf) _ _ _ hf
set_option maxRecDepth 20000 in
theorem c_X6_dropBeat {l : Launch} (hl : l.stackTraces = false) {G : GG} {Z : ZZ} (hz : ZOk G Z) (hZ : ZM Z) (r0 : Nat) (v1 : Int32) (M : Mem) (hr0 : ArI r0) (r : Unit) (M' : Mem) (hf : f_X6_dropBeat r0 v1 M = some (r, M')) : CN (QcV G Z r M') l G Z yX6_dropBeat cX6_dropBeat 4 none 2 [.ref (Z.1 r0), .int v1] M :=
  CN.of [(0, .ref (Z.1 r0)), (1, .int v1)] hl (by decide +kernel) (Nat.le_of_ble_eq_true rfl) rfl (fun _ hC => w_X6_dropBeat hC hz hZ r0 v1 M hr0 hf)
set_option maxRecDepth 20000 in
theorem w_X6_removeBeat_b32 {X : XX} {G : GG} {Z : ZZ} {r : Int32} {M' : Mem} (hC : Cx X G RX6 cX6_removeBeat (some .int) 3 0 0 2) (hz : ZOk G Z) (hZ : ZM Z) (v1 : Int32) (s0 : Int32) (M : Mem) (hf : f_X6_removeBeat_b32 v1 s0 M = some (r, M')) : V X G Z M 0 0 (QN X G (QcI G Z r M') 0 0) 32 [(0, .ref (Z.1 27)), (1, .int v1)] [.int s0, .ref (Z.1 27)] := by
  unfold f_X6_removeBeat_b32 at hf
  refine r_callVI [] (fun r M1 h => c_X6_refused (cx_st hC) hz hZ s0 _  r M1 h) hf cs_X6_169 hC (z_1 hZ 27 (by decide) rfl) (q0 := (RX6, TX6, 19)) rfl rfl [.int s0] rfl rfl rfl (by decide) (by decide) (Nat.le_of_ble_eq_true rfl) (by decide) (by decide) dX6_removeBeat_32 (fun x3 M4 hf => ?_)
  refine r_if_eq 40 hC dX6_removeBeat_35 (by decide) (fun h => ?_) (fun h => ?_)
  · have hf := if_T hf h
    refine r_aload_n hC dX6_removeBeat_40 0 rfl ?_
    refine r_callVV [] (fun r M1 h => c_X6_remember (cx_st hC) hz hZ  _  r M1 h) hf cs_X6_220 hC (z_1 hZ 27 (by decide) rfl) (q0 := (RX6, TX6, 19)) rfl rfl [] rfl rfl rfl (by decide) (by decide) (Nat.le_of_ble_eq_true rfl) (by decide) (by decide) dX6_removeBeat_41 (fun x5 M6 hf => ?_)
    refine r_aload_n hC dX6_removeBeat_44 0 rfl ?_
    refine gf_X6_16 hC (z_1 hZ 27 (by decide) rfl) rfl dX6_removeBeat_45 ?_
    refine r_iload_n hC dX6_removeBeat_48 1 rfl ?_
    refine r_callSV [] (fun r M1 h => c_X6_dropBeat (cx_st hC) hz hZ 30 v1 _ ⟨by decide, rfl⟩ r M1 h) hf cs_X6_247 hC  rfl rfl (by decide) (by decide) (Nat.le_of_ble_eq_true rfl) (by decide) (by decide) dX6_removeBeat_49 (fun x7 M8 hf => ?_)
    refine r_aload_n hC dX6_removeBeat_52 0 rfl ?_
    refine gf_X6_16 hC (z_1 hZ 27 (by decide) rfl) rfl dX6_removeBeat_53 ?_
    refine r_bipush (v := 7) hC dX6_removeBeat_56 rfl ?_
    have hin := if_K hf
    have hf := if_V hf
    refine r_iald hC (z_1 hZ 30 (by decide) rfl) (inb_vp hin) dX6_removeBeat_58 ?_
    exact r_iret hf hC (by decide) (by decide) dX6_removeBeat_59
  · have hf := if_F hf h
    refine r_iconst (v := 0) hC dX6_removeBeat_38 rfl ?_
    exact r_iret hf hC (by decide) (by decide) dX6_removeBeat_39
set_option maxRecDepth 20000 in
theorem w_X6_removeBeat {X : XX} {G : GG} {Z : ZZ} (hC : Cx X G RX6 cX6_removeBeat (some .int) 3 0 0 2) (hz : ZOk G Z) (hZ : ZM Z) (v1 : Int32) (M : Mem)  {r : Int32} {M' : Mem} (hf : f_X6_removeBeat v1 M = some (r, M')) : V X G Z M 0 0 (QN X G (QcI G Z r M') 0 0) 0 [(0, .ref (Z.1 27)), (1, .int v1)] [] := by
  unfold f_X6_removeBeat at hf
  refine r_aload_n hC dX6_removeBeat_0 0 rfl ?_
  refine r_aload_n hC dX6_removeBeat_1 0 rfl ?_
  refine gf_X6_16 hC (z_1 hZ 27 (by decide) rfl) rfl dX6_removeBeat_2 ?_
  refine r_iload_n hC dX6_removeBeat_5 1 rfl ?_
  refine r_callSI [.ref (Z.1 27)] (fun r M1 h => c_X6_isBeat (cx_st hC) hz hZ 30 v1 _ ⟨by decide, rfl⟩ r M1 h) hf cs_X6_211 hC  rfl rfl (by decide) (by decide) (Nat.le_of_ble_eq_true rfl) (by decide) (by decide) dX6_removeBeat_6 (fun x1 M2 hf => ?_)
  refine r_if_ne 16 hC dX6_removeBeat_9 (by decide) (fun h => ?_) (fun h => ?_)
  · have hf := if_F hf h
    refine r_aload_n hC dX6_removeBeat_16 0 rfl ?_
    refine gf_X6_16 hC (z_1 hZ 27 (by decide) rfl) rfl dX6_removeBeat_17 ?_
    refine r_bipush (v := 7) hC dX6_removeBeat_20 rfl ?_
    have hin := if_K hf
    have hf := if_V hf
    refine r_iald hC (z_1 hZ 30 (by decide) rfl) (inb_vp hin) dX6_removeBeat_22 ?_
    refine r_iconst (v := 1) hC dX6_removeBeat_23 rfl ?_
    refine r_icmp_ne 31 hC dX6_removeBeat_24 (by decide) (fun h => ?_) (fun h => ?_)
    · have hf := if_F hf h
      refine r_iconst (v := 0) hC dX6_removeBeat_31 rfl ?_
      exact w_X6_removeBeat_b32 hC hz hZ v1 0 _ hf
    · have hf := if_T hf h
      refine r_iconst (v := 2) hC dX6_removeBeat_27 rfl ?_
      refine r_goto 32 hC dX6_removeBeat_28 (by decide) ?_
      exact w_X6_removeBeat_b32 hC hz hZ v1 2 _ hf
  · have hf := if_T hf h
    refine r_iconst (v := 1) hC dX6_removeBeat_12 rfl ?_
    refine r_goto 32 hC dX6_removeBeat_13 (by decide) ?_
    exact w_X6_removeBeat_b32 hC hz hZ v1 1 _ hf
set_option maxRecDepth 20000 in
theorem c_X6_removeBeat {l : Launch} (hl : l.stackTraces = false) {G : GG} {Z : ZZ} (hz : ZOk G Z) (hZ : ZM Z) (v1 : Int32) (M : Mem)  (r : Int32) (M' : Mem) (hf : f_X6_removeBeat v1 M = some (r, M')) : CN (QcI G Z r M') l G Z yX6_removeBeat cX6_removeBeat 2 (some .int) 3 [.ref (Z.1 27), .int v1] M :=
  CN.of [(0, .ref (Z.1 27)), (1, .int v1)] hl (by decide +kernel) (Nat.le_of_ble_eq_true rfl) rfl (fun _ hC => w_X6_removeBeat hC hz hZ v1 M  hf)
set_option maxRecDepth 20000 in
theorem w_X6_undo_b13 {X : XX} {G : GG} {Z : ZZ} {r : Int32} {M' : Mem} (hC : Cx X G RX6 cX6_undo (some .int) 1 0 0 1) (hz : ZOk G Z) (hZ : ZM Z) (s0 : Int32) (M : Mem) (hf : f_X6_undo_b13 s0 M = some (r, M')) : V X G Z M 0 0 (QN X G (QcI G Z r M') 0 0) 13 [(0, .ref (Z.1 27))] [.int s0, .ref (Z.1 27)] := by
  unfold f_X6_undo_b13 at hf
  refine r_callVI [] (fun r M1 h => c_X6_refused (cx_st hC) hz hZ s0 _  r M1 h) hf cs_X6_169 hC (z_1 hZ 27 (by decide) rfl) (q0 := (RX6, TX6, 19)) rfl rfl [.int s0] rfl rfl rfl (by decide) (by decide) (Nat.le_of_ble_eq_true rfl) (by decide) (by decide) dX6_undo_13 (fun x1 M2 hf => ?_)
  refine r_if_eq 21 hC dX6_undo_16 (by decide) (fun h => ?_) (fun h => ?_)
  · have hf := if_T hf h
    refine r_aload_n hC dX6_undo_21 0 rfl ?_
    refine r_dup hC dX6_undo_22 rfl ?_
    refine gf_X6_196 hC (z_1 hZ 27 (by decide) rfl) rfl dX6_undo_23 ?_
    refine r_iconst (v := 1) hC dX6_undo_26 rfl ?_
    refine r_isub hC dX6_undo_27 ?_
    refine pf_X6_196 hC hz (z_1 hZ 27 (by decide) rfl) rfl dX6_undo_28 ?_
    refine r_aload_n hC dX6_undo_31 0 rfl ?_
    refine gf_X6_25 hC (z_1 hZ 27 (by decide) rfl) rfl dX6_undo_32 ?_
    refine r_bipush (v := 72) hC dX6_undo_35 rfl ?_
    refine r_aload_n hC dX6_undo_37 0 rfl ?_
    refine gf_X6_196 hC (z_1 hZ 27 (by decide) rfl) rfl dX6_undo_38 ?_
    refine r_imul hC dX6_undo_41 ?_
    refine r_aload_n hC dX6_undo_42 0 rfl ?_
    refine gf_X6_16 hC (z_1 hZ 27 (by decide) rfl) rfl dX6_undo_43 ?_
    refine r_iconst (v := 0) hC dX6_undo_46 rfl ?_
    refine r_callSV [] (fun r M1 h => c_X6_copyPage (cx_st hC) hz hZ 33 (72 * ((mw M2 27 9 ((M2 27 9) - 1)) 27 9)) 30 0 _ ⟨by decide, rfl⟩ ⟨by decide, rfl⟩ r M1 h) hf cs_X6_192 hC  rfl rfl (by decide) (by decide) (Nat.le_of_ble_eq_true rfl) (by decide) (by decide) dX6_undo_47 (fun x3 M4 hf => ?_)
    refine r_aload_n hC dX6_undo_50 0 rfl ?_
    refine gf_X6_196 hC (z_1 hZ 27 (by decide) rfl) rfl dX6_undo_51 ?_
    exact r_iret hf hC (by decide) (by decide) dX6_undo_54
  · have hf := if_F hf h
    refine r_iconst (v := 0) hC dX6_undo_19 rfl ?_
    exact r_iret hf hC (by decide) (by decide) dX6_undo_20
set_option maxRecDepth 20000 in
theorem w_X6_undo {X : XX} {G : GG} {Z : ZZ} (hC : Cx X G RX6 cX6_undo (some .int) 1 0 0 1) (hz : ZOk G Z) (hZ : ZM Z)  (M : Mem)  {r : Int32} {M' : Mem} (hf : f_X6_undo  M = some (r, M')) : V X G Z M 0 0 (QN X G (QcI G Z r M') 0 0) 0 [(0, .ref (Z.1 27))] [] := by
  unfold f_X6_undo at hf
  refine r_aload_n hC dX6_undo_0 0 rfl ?_
  refine r_aload_n hC dX6_undo_1 0 rfl ?_
  refine gf_X6_196 hC (z_1 hZ 27 (by decide) rfl) rfl dX6_undo_2 ?_
  refine r_if_ne 12 hC dX6_undo_5 (by decide) (fun h => ?_) (fun h => ?_)
  · have hf := if_F hf h
    refine r_iconst (v := 0) hC dX6_undo_12 rfl ?_
    exact w_X6_undo_b13 hC hz hZ 0 _ hf
  · have hf := if_T hf h
    refine r_iconst (v := 1) hC dX6_undo_8 rfl ?_
    refine r_goto 13 hC dX6_undo_9 (by decide) ?_
    exact w_X6_undo_b13 hC hz hZ 1 _ hf
set_option maxRecDepth 20000 in
theorem c_X6_undo {l : Launch} (hl : l.stackTraces = false) {G : GG} {Z : ZZ} (hz : ZOk G Z) (hZ : ZM Z)  (M : Mem)  (r : Int32) (M' : Mem) (hf : f_X6_undo  M = some (r, M')) : CN (QcI G Z r M') l G Z yX6_undo cX6_undo 1 (some .int) 1 [.ref (Z.1 27)] M :=
  CN.of [(0, .ref (Z.1 27))] hl (by decide +kernel) (Nat.le_of_ble_eq_true rfl) rfl (fun _ hC => w_X6_undo hC hz hZ  M  hf)
set_option maxRecDepth 20000 in
theorem w_X6_note_b169 {X : XX} {G : GG} {Z : ZZ} {r : Int32} {M' : Mem} (hC : Cx X G RX6 cX6_note (some .int) 8 0 0 6) (hz : ZOk G Z) (hZ : ZM Z)  (M : Mem) (hf : f_X6_note_b169  M = some (r, M')) : V X G Z M 0 0 (QN X G (QcI G Z r M') 0 0) 169 [] [] := by
  unfold f_X6_note_b169 at hf
  refine r_iconst (v := 1) hC dX6_note_169 rfl ?_
  refine r_goto 174 hC dX6_note_170 (by decide) ?_
  exact r_iret hf hC (by decide) (by decide) dX6_note_174
set_option maxRecDepth 20000 in
theorem w_X6_note_b34 {X : XX} {G : GG} {Z : ZZ} {r : Int32} {M' : Mem} (hC : Cx X G RX6 cX6_note (some .int) 8 0 0 6) (hz : ZOk G Z) (hZ : ZM Z) (v1 : Int32) (v2 : Int32) (v3 : Int32) (s0 : Int32) (M : Mem) (hf : f_X6_note_b34 v1 v2 v3 s0 M = some (r, M')) : V X G Z M 0 0 (QN X G (QcI G Z r M') 0 0) 34 [(0, .ref (Z.1 27)), (1, .int v1), (2, .int v2), (3, .int v3)] [.int s0, .ref (Z.1 27)] := by
  unfold f_X6_note_b34 at hf
  refine r_callVI [] (fun r M1 h => c_X6_refused (cx_st hC) hz hZ s0 _  r M1 h) hf cs_X6_169 hC (z_1 hZ 27 (by decide) rfl) (q0 := (RX6, TX6, 19)) rfl rfl [.int s0] rfl rfl rfl (by decide) (by decide) (Nat.le_of_ble_eq_true rfl) (by decide) (by decide) dX6_note_34 (fun x5 M6 hf => ?_)
  refine r_if_eq 42 hC dX6_note_37 (by decide) (fun h => ?_) (fun h => ?_)
  · have hf := if_T hf h
    refine r_aload_n hC dX6_note_42 0 rfl ?_
    refine r_aload_n hC dX6_note_43 0 rfl ?_
    refine gf_X6_16 hC (z_1 hZ 27 (by decide) rfl) rfl dX6_note_44 ?_
    refine r_callVV [] (fun r M1 h => c_X6_lay (cx_st hC) hz hZ 30 _ ⟨by decide, rfl⟩ r M1 h) hf cs_X6_158 hC (z_1 hZ 27 (by decide) rfl) (q0 := (RX6, TX6, 19)) rfl rfl [.ref (Z.1 30)] rfl rfl rfl (by decide) (by decide) (Nat.le_of_ble_eq_true rfl) (by decide) (by decide) dX6_note_47 (fun x7 M8 hf => ?_)
    refine r_aload_n hC dX6_note_50 0 rfl ?_
    refine gf_X6_35 hC (z_1 hZ 27 (by decide) rfl) rfl dX6_note_51 ?_
    refine r_iload_n hC dX6_note_54 1 rfl ?_
    refine r_iload_n hC dX6_note_55 2 rfl ?_
    refine r_callSI [.ref (Z.1 36)] (fun r M1 h => c_X6_at (cx_st hC) hz hZ v1 v2 _  r M1 h) hf cs_X6_70 hC  rfl rfl (by decide) (by decide) (Nat.le_of_ble_eq_true rfl) (by decide) (by decide) dX6_note_56 (fun x9 M10 hf => ?_)
    have hin := if_K hf
    have hf := if_V hf
    refine r_iald hC (z_1 hZ 36 (by decide) rfl) (inb_vp hin) dX6_note_59 ?_
    refine r_bipush (v := (-9)) hC dX6_note_60 rfl ?_
    refine r_icmp_ne 68 hC dX6_note_62 (by decide) (fun h => ?_) (fun h => ?_)
    · have hf := if_F hf h
      refine r_aload_n hC dX6_note_68 0 rfl ?_
      refine r_iload_n hC dX6_note_69 1 rfl ?_
      refine r_iload_n hC dX6_note_70 2 rfl ?_
      refine r_aload_n hC dX6_note_71 0 rfl ?_
      refine gf_X6_50 hC (z_1 hZ 27 (by decide) rfl) rfl dX6_note_72 ?_
      refine r_iload_n hC dX6_note_75 2 rfl ?_
      have hin := if_K hf
      have hf := if_V hf
      refine r_iald hC (z_1 hZ 41 (by decide) rfl) (inb_vp hin) dX6_note_76 ?_
      refine r_callVI [] (fun r M1 h => c_X6_handOf (cx_st hC) hz hZ v1 v2 (M10 41 (Int32.toNatClampNeg v2)) _  r M1 h) hf cs_X6_100 hC (z_1 hZ 27 (by decide) rfl) (q0 := (RX6, TX6, 19)) rfl rfl [.int v1, .int v2, .int (M10 41 (Int32.toNatClampNeg v2))] rfl rfl rfl (by decide) (by decide) (Nat.le_of_ble_eq_true rfl) (by decide) (by decide) dX6_note_77 (fun x11 M12 hf => ?_)
      refine r_istore (L' := [(4, .int x11), (0, .ref (Z.1 27)), (1, .int v1), (2, .int v2), (3, .int v3)]) hC dX6_note_80 (by decide) rfl ?_
      refine r_aload_n hC dX6_note_82 1 rfl ?_
      refine r_aload_n hC dX6_note_83 1 rfl ?_
      refine gf_X6_16 hC (z_1 hZ 27 (by decide) rfl) rfl dX6_note_84 ?_
      refine r_iload_n hC dX6_note_87 2 rfl ?_
      refine r_iload_n hC dX6_note_88 3 rfl ?_
      refine r_callVI [] (fun r M1 h => c_X6_isCutHere (cx_st hC) hz hZ 30 v1 v2 _ ⟨by decide, rfl⟩ r M1 h) hf cs_X6_161 hC (z_1 hZ 27 (by decide) rfl) (q0 := (RX6, TX6, 19)) rfl rfl [.ref (Z.1 30), .int v1, .int v2] rfl rfl rfl (by decide) (by decide) (Nat.le_of_ble_eq_true rfl) (by decide) (by decide) dX6_note_89 (fun x13 M14 hf => ?_)
      refine r_istore (L' := [(5, .int x13), (4, .int x11), (0, .ref (Z.1 27)), (1, .int v1), (2, .int v2), (3, .int v3)]) hC dX6_note_92 (by decide) rfl ?_
      refine r_iload_n hC dX6_note_94 5 rfl ?_
      refine r_if_ne 103 hC dX6_note_95 (by decide) (fun h => ?_) (fun h => ?_)
      · have hf := if_F hf h
        refine r_iload_n hC dX6_note_103 5 rfl ?_
        refine r_iconst (v := 1) hC dX6_note_104 rfl ?_
        refine r_icmp_ne 121 hC dX6_note_105 (by decide) (fun h => ?_) (fun h => ?_)
        · have hf := if_F hf h
          refine r_iload_n hC dX6_note_121 5 rfl ?_
          refine r_iconst (v := 3) hC dX6_note_122 rfl ?_
          refine r_icmp_ne 139 hC dX6_note_123 (by decide) (fun h => ?_) (fun h => ?_)
          · have hf := if_F hf h
            refine r_iload hC dX6_note_139 1 rfl ?_
            refine r_bipush (v := (-9)) hC dX6_note_141 rfl ?_
            refine r_icmp_ne 151 hC dX6_note_143 (by decide) (fun h => ?_) (fun h => ?_)
            · have hf := if_F hf h
              refine r_iload hC dX6_note_151 0 rfl ?_
              refine r_if_ne 169 hC dX6_note_153 (by decide) (fun h => ?_) (fun h => ?_)
              · have hf := if_F hf h
                refine r_L [] rfl ?_
                exact w_X6_note_b169 hC hz hZ  _ hf
              · have hf := if_T hf h
                refine r_aload_n hC dX6_note_156 2 rfl ?_
                refine r_aload_n hC dX6_note_157 2 rfl ?_
                refine gf_X6_16 hC (z_1 hZ 27 (by decide) rfl) rfl dX6_note_158 ?_
                refine r_iload_n hC dX6_note_161 3 rfl ?_
                refine r_iload_n hC dX6_note_162 4 rfl ?_
                refine r_callVI [] (fun r M1 h => c_X6_isHeld (cx_st hC) hz hZ 30 v1 v2 _ ⟨by decide, rfl⟩ r M1 h) hf cs_X6_74 hC (z_1 hZ 27 (by decide) rfl) (q0 := (RX6, TX6, 19)) rfl rfl [.ref (Z.1 30), .int v1, .int v2] rfl rfl rfl (by decide) (by decide) (Nat.le_of_ble_eq_true rfl) (by decide) (by decide) dX6_note_163 (fun x15 M16 hf => ?_)
                refine r_if_ne 173 hC dX6_note_166 (by decide) (fun h => ?_) (fun h => ?_)
                · have hf := if_F hf h
                  refine r_iconst (v := 0) hC dX6_note_173 rfl ?_
                  exact r_iret hf hC (by decide) (by decide) dX6_note_174
                · have hf := if_T hf h
                  refine r_L [] rfl ?_
                  exact w_X6_note_b169 hC hz hZ  _ hf
            · have hf := if_T hf h
              refine r_bipush (v := (-9)) hC dX6_note_146 rfl ?_
              refine r_goto 174 hC dX6_note_148 (by decide) ?_
              exact r_iret hf hC (by decide) (by decide) dX6_note_174
          · have hf := if_T hf h
            refine r_iload hC dX6_note_126 0 rfl ?_
            refine r_if_eq 135 hC dX6_note_128 (by decide) (fun h => ?_) (fun h => ?_)
            · have hf := if_T hf h
              refine r_iconst (v := 0) hC dX6_note_135 rfl ?_
              refine r_goto 174 hC dX6_note_136 (by decide) ?_
              exact r_iret hf hC (by decide) (by decide) dX6_note_174
            · have hf := if_F hf h
              refine r_iconst (v := 1) hC dX6_note_131 rfl ?_
              refine r_goto 174 hC dX6_note_132 (by decide) ?_
              exact r_iret hf hC (by decide) (by decide) dX6_note_174
        · have hf := if_T hf h
          refine r_aload_n hC dX6_note_108 2 rfl ?_
          refine gf_X6_38 hC (z_1 hZ 27 (by decide) rfl) rfl dX6_note_109 ?_
          refine r_iload_n hC dX6_note_112 3 rfl ?_
          refine r_iload_n hC dX6_note_113 4 rfl ?_
          refine r_callSI [.ref (Z.1 37)] (fun r M1 h => c_X6_at (cx_st hC) hz hZ v1 v2 _  r M1 h) hf cs_X6_70 hC  rfl rfl (by decide) (by decide) (Nat.le_of_ble_eq_true rfl) (by decide) (by decide) dX6_note_114 (fun x17 M18 hf => ?_)
          have hin := if_K hf
          have hf := if_V hf
          refine r_iald hC (z_1 hZ 37 (by decide) rfl) (inb_vp hin) dX6_note_117 ?_
          refine r_goto 174 hC dX6_note_118 (by decide) ?_
          exact r_iret hf hC (by decide) (by decide) dX6_note_174
      · have hf := if_T hf h
        refine r_iload hC dX6_note_98 1 rfl ?_
        refine r_goto 174 hC dX6_note_100 (by decide) ?_
        exact r_iret hf hC (by decide) (by decide) dX6_note_174
    · have hf := if_T hf h
      refine r_bipush (v := (-9)) hC dX6_note_65 rfl ?_
      exact r_iret hf hC (by decide) (by decide) dX6_note_67
  · have hf := if_F hf h
    refine r_iconst (v := 0) hC dX6_note_40 rfl ?_
    exact r_iret hf hC (by decide) (by decide) dX6_note_41
set_option maxRecDepth 20000 in
theorem w_X6_note {X : XX} {G : GG} {Z : ZZ} (hC : Cx X G RX6 cX6_note (some .int) 8 0 0 6) (hz : ZOk G Z) (hZ : ZM Z) (v1 : Int32) (v2 : Int32) (v3 : Int32) (M : Mem)  {r : Int32} {M' : Mem} (hf : f_X6_note v1 v2 v3 M = some (r, M')) : V X G Z M 0 0 (QN X G (QcI G Z r M') 0 0) 0 [(0, .ref (Z.1 27)), (1, .int v1), (2, .int v2), (3, .int v3)] [] := by
  unfold f_X6_note at hf
  refine r_aload_n hC dX6_note_0 0 rfl ?_
  refine r_aload_n hC dX6_note_1 0 rfl ?_
  refine gf_X6_16 hC (z_1 hZ 27 (by decide) rfl) rfl dX6_note_2 ?_
  refine r_iload_n hC dX6_note_5 1 rfl ?_
  refine r_iload_n hC dX6_note_6 2 rfl ?_
  refine r_callSI [.ref (Z.1 27)] (fun r M1 h => c_X6_isCell (cx_st hC) hz hZ 30 v1 v2 _ ⟨by decide, rfl⟩ r M1 h) hf cs_X6_214 hC  rfl rfl (by decide) (by decide) (Nat.le_of_ble_eq_true rfl) (by decide) (by decide) dX6_note_7 (fun x1 M2 hf => ?_)
  refine r_if_ne 17 hC dX6_note_10 (by decide) (fun h => ?_) (fun h => ?_)
  · have hf := if_F hf h
    refine r_iload_n hC dX6_note_17 3 rfl ?_
    refine r_i2l hC dX6_note_18 ?_
    refine r_lconst (v := 0) hC dX6_note_19 rfl ?_
    refine r_ldc2 (v := 3) hC dX6_note_20 kw_X6_250 ?_
    refine r_callSI [.ref (Z.1 27)] (fun r M1 h => c_X6_in (cx_st hC) hz hZ (Int32.toInt64 v3) 0 3 _  r M1 h) hf cs_X6_66 hC  rfl rfl (by decide) (by decide) (Nat.le_of_ble_eq_true rfl) (by decide) (by decide) dX6_note_23 (fun x3 M4 hf => ?_)
    refine r_if_ne 33 hC dX6_note_26 (by decide) (fun h => ?_) (fun h => ?_)
    · have hf := if_F hf h
      refine r_iconst (v := 0) hC dX6_note_33 rfl ?_
      exact w_X6_note_b34 hC hz hZ v1 v2 v3 0 _ hf
    · have hf := if_T hf h
      refine r_iconst (v := 2) hC dX6_note_29 rfl ?_
      refine r_goto 34 hC dX6_note_30 (by decide) ?_
      exact w_X6_note_b34 hC hz hZ v1 v2 v3 2 _ hf
  · have hf := if_T hf h
    refine r_iconst (v := 1) hC dX6_note_13 rfl ?_
    refine r_goto 34 hC dX6_note_14 (by decide) ?_
    exact w_X6_note_b34 hC hz hZ v1 v2 v3 1 _ hf
set_option maxRecDepth 20000 in
theorem c_X6_note {l : Launch} (hl : l.stackTraces = false) {G : GG} {Z : ZZ} (hz : ZOk G Z) (hZ : ZM Z) (v1 : Int32) (v2 : Int32) (v3 : Int32) (M : Mem)  (r : Int32) (M' : Mem) (hf : f_X6_note v1 v2 v3 M = some (r, M')) : CN (QcI G Z r M') l G Z yX6_note cX6_note 6 (some .int) 8 [.ref (Z.1 27), .int v1, .int v2, .int v3] M :=
  CN.of [(0, .ref (Z.1 27)), (1, .int v1), (2, .int v2), (3, .int v3)] hl (by decide +kernel) (Nat.le_of_ble_eq_true rfl) rfl (fun _ hC => w_X6_note hC hz hZ v1 v2 v3 M  hf)
set_option maxRecDepth 20000 in
theorem w_X6_hand_b43 {X : XX} {G : GG} {Z : ZZ} {r : Int32} {M' : Mem} (hC : Cx X G RX6 cX6_hand (some .int) 8 0 0 5) (hz : ZOk G Z) (hZ : ZM Z) (v1 : Int32) (v2 : Int32) (v3 : Int32) (s0 : Int32) (M : Mem) (hf : f_X6_hand_b43 v1 v2 v3 s0 M = some (r, M')) : V X G Z M 0 0 (QN X G (QcI G Z r M') 0 0) 43 [(0, .ref (Z.1 27)), (1, .int v1), (2, .int v2), (3, .int v3)] [.int s0, .ref (Z.1 27)] := by
  unfold f_X6_hand_b43 at hf
  refine r_callVI [] (fun r M1 h => c_X6_refused (cx_st hC) hz hZ s0 _  r M1 h) hf cs_X6_169 hC (z_1 hZ 27 (by decide) rfl) (q0 := (RX6, TX6, 19)) rfl rfl [.int s0] rfl rfl rfl (by decide) (by decide) (Nat.le_of_ble_eq_true rfl) (by decide) (by decide) dX6_hand_43 (fun x7 M8 hf => ?_)
  refine r_if_eq 51 hC dX6_hand_46 (by decide) (fun h => ?_) (fun h => ?_)
  · have hf := if_T hf h
    refine r_aload_n hC dX6_hand_51 0 rfl ?_
    refine r_aload_n hC dX6_hand_52 0 rfl ?_
    refine gf_X6_16 hC (z_1 hZ 27 (by decide) rfl) rfl dX6_hand_53 ?_
    refine r_callVV [] (fun r M1 h => c_X6_lay (cx_st hC) hz hZ 30 _ ⟨by decide, rfl⟩ r M1 h) hf cs_X6_158 hC (z_1 hZ 27 (by decide) rfl) (q0 := (RX6, TX6, 19)) rfl rfl [.ref (Z.1 30)] rfl rfl rfl (by decide) (by decide) (Nat.le_of_ble_eq_true rfl) (by decide) (by decide) dX6_hand_56 (fun x9 M10 hf => ?_)
    refine r_aload_n hC dX6_hand_59 0 rfl ?_
    refine gf_X6_50 hC (z_1 hZ 27 (by decide) rfl) rfl dX6_hand_60 ?_
    refine r_iload_n hC dX6_hand_63 2 rfl ?_
    have hin := if_K hf
    have hf := if_V hf
    refine r_iald hC (z_1 hZ 41 (by decide) rfl) (inb_vp hin) dX6_hand_64 ?_
    refine r_istore (L' := [(4, .int (M10 41 (Int32.toNatClampNeg v2))), (0, .ref (Z.1 27)), (1, .int v1), (2, .int v2), (3, .int v3)]) hC dX6_hand_65 (by decide) rfl ?_
    refine r_iload_n hC dX6_hand_67 4 rfl ?_
    by_cases e0 : v3 = 0
    · have hf := if_T hf e0
      refine r_swIn (c := 0) (tgt := 100) hC dX6_hand_68 e0 (by decide) (by decide) rfl (by decide) ?_
      refine r_aload_n hC dX6_hand_100 1 rfl ?_
      refine r_iload_n hC dX6_hand_101 2 rfl ?_
      refine r_iload_n hC dX6_hand_102 3 rfl ?_
      refine r_iload hC dX6_hand_103 0 rfl ?_
      refine r_callVI [] (fun r M1 h => c_X6_to (cx_st hC) hz hZ v1 v2 (M10 41 (Int32.toNatClampNeg v2)) _  r M1 h) hf cs_X6_103 hC (z_1 hZ 27 (by decide) rfl) (q0 := (RX6, TX6, 19)) rfl rfl [.int v1, .int v2, .int (M10 41 (Int32.toNatClampNeg v2))] rfl rfl rfl (by decide) (by decide) (Nat.le_of_ble_eq_true rfl) (by decide) (by decide) dX6_hand_105 (fun x11 M12 hf => ?_)
      refine r_aload_n hC dX6_hand_108 1 rfl ?_
      refine r_iload_n hC dX6_hand_109 2 rfl ?_
      refine r_iload hC dX6_hand_110 0 rfl ?_
      refine r_callVI [.int x11] (fun r M1 h => c_X6_from (cx_st hC) hz hZ v1 (M10 41 (Int32.toNatClampNeg v2)) _  r M1 h) hf cs_X6_106 hC (z_1 hZ 27 (by decide) rfl) (q0 := (RX6, TX6, 19)) rfl rfl [.int v1, .int (M10 41 (Int32.toNatClampNeg v2))] rfl rfl rfl (by decide) (by decide) (Nat.le_of_ble_eq_true rfl) (by decide) (by decide) dX6_hand_112 (fun x13 M14 hf => ?_)
      refine r_isub hC dX6_hand_115 ?_
      exact r_iret hf hC (by decide) (by decide) dX6_hand_116
    have hf := if_F hf e0
    by_cases e1 : v3 = 1
    · have hf := if_T hf e1
      refine r_swIn (c := 1) (tgt := 117) hC dX6_hand_68 e1 (by decide) (by decide) rfl (by decide) ?_
      refine r_aload_n hC dX6_hand_117 1 rfl ?_
      refine r_iload_n hC dX6_hand_118 2 rfl ?_
      refine r_iload_n hC dX6_hand_119 3 rfl ?_
      refine r_iload hC dX6_hand_120 0 rfl ?_
      refine r_callVI [] (fun r M1 h => c_X6_position (cx_st hC) hz hZ v1 v2 (M10 41 (Int32.toNatClampNeg v2)) _  r M1 h) hf cs_X6_109 hC (z_1 hZ 27 (by decide) rfl) (q0 := (RX6, TX6, 19)) rfl rfl [.int v1, .int v2, .int (M10 41 (Int32.toNatClampNeg v2))] rfl rfl rfl (by decide) (by decide) (Nat.le_of_ble_eq_true rfl) (by decide) (by decide) dX6_hand_122 (fun x15 M16 hf => ?_)
      exact r_iret hf hC (by decide) (by decide) dX6_hand_125
    have hf := if_F hf e1
    by_cases e2 : v3 = 2
    · have hf := if_T hf e2
      refine r_swIn (c := 2) (tgt := 126) hC dX6_hand_68 e2 (by decide) (by decide) rfl (by decide) ?_
      refine r_aload_n hC dX6_hand_126 1 rfl ?_
      refine r_iload_n hC dX6_hand_127 3 rfl ?_
      refine r_aload_n hC dX6_hand_128 1 rfl ?_
      refine r_iload_n hC dX6_hand_129 2 rfl ?_
      refine r_iload hC dX6_hand_130 0 rfl ?_
      refine r_callVI [.int v2, .ref (Z.1 27)] (fun r M1 h => c_X6_from (cx_st hC) hz hZ v1 (M10 41 (Int32.toNatClampNeg v2)) _  r M1 h) hf cs_X6_106 hC (z_1 hZ 27 (by decide) rfl) (q0 := (RX6, TX6, 19)) rfl rfl [.int v1, .int (M10 41 (Int32.toNatClampNeg v2))] rfl rfl rfl (by decide) (by decide) (Nat.le_of_ble_eq_true rfl) (by decide) (by decide) dX6_hand_132 (fun x17 M18 hf => ?_)
      refine r_aload_n hC dX6_hand_135 1 rfl ?_
      refine r_iload_n hC dX6_hand_136 2 rfl ?_
      refine r_iload_n hC dX6_hand_137 3 rfl ?_
      refine r_iload hC dX6_hand_138 0 rfl ?_
      refine r_callVI [.int x17, .int v2, .ref (Z.1 27)] (fun r M1 h => c_X6_to (cx_st hC) hz hZ v1 v2 (M10 41 (Int32.toNatClampNeg v2)) _  r M1 h) hf cs_X6_103 hC (z_1 hZ 27 (by decide) rfl) (q0 := (RX6, TX6, 19)) rfl rfl [.int v1, .int v2, .int (M10 41 (Int32.toNatClampNeg v2))] rfl rfl rfl (by decide) (by decide) (Nat.le_of_ble_eq_true rfl) (by decide) (by decide) dX6_hand_140 (fun x19 M20 hf => ?_)
      refine r_callVI [] (fun r M1 h => c_X6_width (cx_st hC) hz hZ v2 x17 x19 _  r M1 h) hf cs_X6_89 hC (z_1 hZ 27 (by decide) rfl) (q0 := (RX6, TX6, 19)) rfl rfl [.int v2, .int x17, .int x19] rfl rfl rfl (by decide) (by decide) (Nat.le_of_ble_eq_true rfl) (by decide) (by decide) dX6_hand_143 (fun x21 M22 hf => ?_)
      exact r_iret hf hC (by decide) (by decide) dX6_hand_146
    have hf := if_F hf e2
    by_cases e3 : v3 = 3
    · have hf := if_T hf e3
      refine r_swIn (c := 3) (tgt := 147) hC dX6_hand_68 e3 (by decide) (by decide) rfl (by decide) ?_
      refine r_aload_n hC dX6_hand_147 1 rfl ?_
      refine r_aload_n hC dX6_hand_148 1 rfl ?_
      refine gf_X6_16 hC (z_1 hZ 27 (by decide) rfl) rfl dX6_hand_149 ?_
      refine r_iload_n hC dX6_hand_152 2 rfl ?_
      refine r_iload_n hC dX6_hand_153 3 rfl ?_
      refine r_iload hC dX6_hand_154 0 rfl ?_
      refine r_callVI [] (fun r M1 h => c_X6_isRolled (cx_st hC) hz hZ 30 v1 v2 (M10 41 (Int32.toNatClampNeg v2)) _ ⟨by decide, rfl⟩ r M1 h) hf cs_X6_116 hC (z_1 hZ 27 (by decide) rfl) (q0 := (RX6, TX6, 19)) rfl rfl [.ref (Z.1 30), .int v1, .int v2, .int (M10 41 (Int32.toNatClampNeg v2))] rfl rfl rfl (by decide) (by decide) (Nat.le_of_ble_eq_true rfl) (by decide) (by decide) dX6_hand_156 (fun x23 M24 hf => ?_)
      refine r_if_eq 166 hC dX6_hand_159 (by decide) (fun h => ?_) (fun h => ?_)
      · have hf := if_T hf h
        refine r_iconst (v := 0) hC dX6_hand_166 rfl ?_
        exact r_iret hf hC (by decide) (by decide) dX6_hand_167
      · have hf := if_F hf h
        refine r_iconst (v := 1) hC dX6_hand_162 rfl ?_
        refine r_goto 167 hC dX6_hand_163 (by decide) ?_
        exact r_iret hf hC (by decide) (by decide) dX6_hand_167
    have hf := if_F hf e3
    refine r_swOut (tgt := 168) hC dX6_hand_68 (sw_out 0 3 (by decide) (by decide) (fun c hc1 hc2 => ?_)) (by decide) ?_
    · have : c = 0 ∨ c = 1 ∨ c = 2 ∨ c = 3 := by omega
      rcases this with rfl | rfl | rfl | rfl
      · exact e0
      · exact e1
      · exact e2
      · exact e3
    refine r_aload_n hC dX6_hand_168 1 rfl ?_
    refine r_iload_n hC dX6_hand_169 2 rfl ?_
    refine r_iload_n hC dX6_hand_170 3 rfl ?_
    refine r_aload_n hC dX6_hand_171 1 rfl ?_
    refine r_iload_n hC dX6_hand_172 3 rfl ?_
    refine r_callVI [.int v2, .int v1, .ref (Z.1 27)] (fun r M1 h => c_X6_before (cx_st hC) hz hZ v2 _  r M1 h) hf cs_X6_154 hC (z_1 hZ 27 (by decide) rfl) (q0 := (RX6, TX6, 19)) rfl rfl [.int v2] rfl rfl rfl (by decide) (by decide) (Nat.le_of_ble_eq_true rfl) (by decide) (by decide) dX6_hand_173 (fun x25 M26 hf => ?_)
    refine r_iload hC dX6_hand_176 0 rfl ?_
    refine r_callVI [] (fun r M1 h => c_X6_move (cx_st hC) hz hZ v1 v2 x25 (M10 41 (Int32.toNatClampNeg v2)) _  r M1 h) hf cs_X6_112 hC (z_1 hZ 27 (by decide) rfl) (q0 := (RX6, TX6, 19)) rfl rfl [.int v1, .int v2, .int x25, .int (M10 41 (Int32.toNatClampNeg v2))] rfl rfl rfl (by decide) (by decide) (Nat.le_of_ble_eq_true rfl) (by decide) (by decide) dX6_hand_178 (fun x27 M28 hf => ?_)
    exact r_iret hf hC (by decide) (by decide) dX6_hand_181
  · have hf := if_F hf h
    refine r_iconst (v := 0) hC dX6_hand_49 rfl ?_
    exact r_iret hf hC (by decide) (by decide) dX6_hand_50
set_option maxRecDepth 20000 in
theorem w_X6_hand_b22 {X : XX} {G : GG} {Z : ZZ} {r : Int32} {M' : Mem} (hC : Cx X G RX6 cX6_hand (some .int) 8 0 0 5) (hz : ZOk G Z) (hZ : ZM Z) (v1 : Int32) (v2 : Int32) (v3 : Int32) (M : Mem) (hf : f_X6_hand_b22 v1 v2 v3 M = some (r, M')) : V X G Z M 0 0 (QN X G (QcI G Z r M') 0 0) 22 [(0, .ref (Z.1 27)), (1, .int v1), (2, .int v2), (3, .int v3)] [.ref (Z.1 27)] := by
  unfold f_X6_hand_b22 at hf
  refine r_iconst (v := 1) hC dX6_hand_22 rfl ?_
  refine r_goto 43 hC dX6_hand_23 (by decide) ?_
  exact w_X6_hand_b43 hC hz hZ v1 v2 v3 1 _ hf
set_option maxRecDepth 20000 in
theorem w_X6_hand {X : XX} {G : GG} {Z : ZZ} (hC : Cx X G RX6 cX6_hand (some .int) 8 0 0 5) (hz : ZOk G Z) (hZ : ZM Z) (v1 : Int32) (v2 : Int32) (v3 : Int32) (M : Mem)  {r : Int32} {M' : Mem} (hf : f_X6_hand v1 v2 v3 M = some (r, M')) : V X G Z M 0 0 (QN X G (QcI G Z r M') 0 0) 0 [(0, .ref (Z.1 27)), (1, .int v1), (2, .int v2), (3, .int v3)] [] := by
  unfold f_X6_hand at hf
  refine r_aload_n hC dX6_hand_0 0 rfl ?_
  refine r_iload_n hC dX6_hand_1 1 rfl ?_
  refine r_i2l hC dX6_hand_2 ?_
  refine r_lconst (v := 0) hC dX6_hand_3 rfl ?_
  refine r_lconst (v := 1) hC dX6_hand_4 rfl ?_
  refine r_callSI [.ref (Z.1 27)] (fun r M1 h => c_X6_in (cx_st hC) hz hZ (Int32.toInt64 v1) 0 1 _  r M1 h) hf cs_X6_66 hC  rfl rfl (by decide) (by decide) (Nat.le_of_ble_eq_true rfl) (by decide) (by decide) dX6_hand_5 (fun x1 M2 hf => ?_)
  refine r_if_eq 22 hC dX6_hand_8 (by decide) (fun h => ?_) (fun h => ?_)
  · have hf := if_T hf h
    exact w_X6_hand_b22 hC hz hZ v1 v2 v3 _ hf
  · have hf := if_F hf h
    refine r_aload_n hC dX6_hand_11 0 rfl ?_
    refine gf_X6_16 hC (z_1 hZ 27 (by decide) rfl) rfl dX6_hand_12 ?_
    refine r_iload_n hC dX6_hand_15 2 rfl ?_
    refine r_callSI [.ref (Z.1 27)] (fun r M1 h => c_X6_isBeat (cx_st hC) hz hZ 30 v2 _ ⟨by decide, rfl⟩ r M1 h) hf cs_X6_211 hC  rfl rfl (by decide) (by decide) (Nat.le_of_ble_eq_true rfl) (by decide) (by decide) dX6_hand_16 (fun x3 M4 hf => ?_)
    refine r_if_ne 26 hC dX6_hand_19 (by decide) (fun h => ?_) (fun h => ?_)
    · have hf := if_F hf h
      refine r_iload_n hC dX6_hand_26 3 rfl ?_
      refine r_i2l hC dX6_hand_27 ?_
      refine r_lconst (v := 0) hC dX6_hand_28 rfl ?_
      refine r_ldc2 (v := 4) hC dX6_hand_29 kw_X6_252 ?_
      refine r_callSI [.ref (Z.1 27)] (fun r M1 h => c_X6_in (cx_st hC) hz hZ (Int32.toInt64 v3) 0 4 _  r M1 h) hf cs_X6_66 hC  rfl rfl (by decide) (by decide) (Nat.le_of_ble_eq_true rfl) (by decide) (by decide) dX6_hand_32 (fun x5 M6 hf => ?_)
      refine r_if_ne 42 hC dX6_hand_35 (by decide) (fun h => ?_) (fun h => ?_)
      · have hf := if_F hf h
        refine r_iconst (v := 0) hC dX6_hand_42 rfl ?_
        exact w_X6_hand_b43 hC hz hZ v1 v2 v3 0 _ hf
      · have hf := if_T hf h
        refine r_iconst (v := 2) hC dX6_hand_38 rfl ?_
        refine r_goto 43 hC dX6_hand_39 (by decide) ?_
        exact w_X6_hand_b43 hC hz hZ v1 v2 v3 2 _ hf
    · have hf := if_T hf h
      exact w_X6_hand_b22 hC hz hZ v1 v2 v3 _ hf
set_option maxRecDepth 20000 in
theorem c_X6_hand {l : Launch} (hl : l.stackTraces = false) {G : GG} {Z : ZZ} (hz : ZOk G Z) (hZ : ZM Z) (v1 : Int32) (v2 : Int32) (v3 : Int32) (M : Mem)  (r : Int32) (M' : Mem) (hf : f_X6_hand v1 v2 v3 M = some (r, M')) : CN (QcI G Z r M') l G Z yX6_hand cX6_hand 5 (some .int) 8 [.ref (Z.1 27), .int v1, .int v2, .int v3] M :=
  CN.of [(0, .ref (Z.1 27)), (1, .int v1), (2, .int v2), (3, .int v3)] hl (by decide +kernel) (Nat.le_of_ble_eq_true rfl) rfl (fun _ hC => w_X6_hand hC hz hZ v1 v2 v3 M  hf)
set_option maxRecDepth 20000 in
theorem w_X6_beat_b89 {X : XX} {G : GG} {Z : ZZ} {r : Int32} {M' : Mem} (hC : Cx X G RX6 cX6_beat (some .int) 8 0 0 5) (hz : ZOk G Z) (hZ : ZM Z) (v1 : Int32) (v2 : Int32) (v3 : Int32) (M : Mem) (hf : f_X6_beat_b89 v1 v2 v3 M = some (r, M')) : V X G Z M 0 0 (QN X G (QcI G Z r M') 0 0) 89 [(0, .ref (Z.1 27)), (1, .int v1), (2, .int v2), (3, .int v3)] [] := by
  unfold f_X6_beat_b89 at hf
  refine r_iload_n hC dX6_beat_89 2 rfl ?_
  refine r_if_ne 102 hC dX6_beat_90 (by decide) (fun h => ?_) (fun h => ?_)
  · have hf := if_F hf h
    refine r_iload_n hC dX6_beat_102 2 rfl ?_
    refine r_iconst (v := 1) hC dX6_beat_103 rfl ?_
    refine r_icmp_ne 111 hC dX6_beat_104 (by decide) (fun h => ?_) (fun h => ?_)
    · have hf := if_F hf h
      refine r_iload_n hC dX6_beat_111 2 rfl ?_
      refine r_iconst (v := 2) hC dX6_beat_112 rfl ?_
      refine r_icmp_ne 139 hC dX6_beat_113 (by decide) (fun h => ?_) (fun h => ?_)
      · have hf := if_F hf h
        refine r_iload_n hC dX6_beat_139 2 rfl ?_
        refine r_iconst (v := 3) hC dX6_beat_140 rfl ?_
        refine r_icmp_ne 153 hC dX6_beat_141 (by decide) (fun h => ?_) (fun h => ?_)
        · have hf := if_F hf h
          refine r_aload_n hC dX6_beat_153 0 rfl ?_
          refine gf_X6_47 hC (z_1 hZ 27 (by decide) rfl) rfl dX6_beat_154 ?_
          refine r_iload_n hC dX6_beat_157 1 rfl ?_
          have hin := if_K hf
          have hf := if_V hf
          refine r_iald hC (z_1 hZ 40 (by decide) rfl) (inb_vp hin) dX6_beat_158 ?_
          exact r_iret hf hC (by decide) (by decide) dX6_beat_159
        · have hf := if_T hf h
          refine r_aload_n hC dX6_beat_144 0 rfl ?_
          refine gf_X6_44 hC (z_1 hZ 27 (by decide) rfl) rfl dX6_beat_145 ?_
          refine r_iload_n hC dX6_beat_148 1 rfl ?_
          have hin := if_K hf
          have hf := if_V hf
          refine r_iald hC (z_1 hZ 39 (by decide) rfl) (inb_vp hin) dX6_beat_149 ?_
          refine r_goto 159 hC dX6_beat_150 (by decide) ?_
          exact r_iret hf hC (by decide) (by decide) dX6_beat_159
      · have hf := if_T hf h
        refine r_aload_n hC dX6_beat_116 0 rfl ?_
        refine r_aload_n hC dX6_beat_117 0 rfl ?_
        refine gf_X6_16 hC (z_1 hZ 27 (by decide) rfl) rfl dX6_beat_118 ?_
        refine r_iload_n hC dX6_beat_121 1 rfl ?_
        refine r_aload_n hC dX6_beat_122 0 rfl ?_
        refine r_iload_n hC dX6_beat_123 1 rfl ?_
        refine r_callVI [.int v1, .ref (Z.1 30), .ref (Z.1 27)] (fun r M1 h => c_X6_before (cx_st hC) hz hZ v1 _  r M1 h) hf cs_X6_154 hC (z_1 hZ 27 (by decide) rfl) (q0 := (RX6, TX6, 19)) rfl rfl [.int v1] rfl rfl rfl (by decide) (by decide) (Nat.le_of_ble_eq_true rfl) (by decide) (by decide) dX6_beat_124 (fun x11 M12 hf => ?_)
        refine r_aload_n hC dX6_beat_127 0 rfl ?_
        refine gf_X6_50 hC (z_1 hZ 27 (by decide) rfl) rfl dX6_beat_128 ?_
        refine r_iload_n hC dX6_beat_131 1 rfl ?_
        have hin := if_K hf
        have hf := if_V hf
        refine r_iald hC (z_1 hZ 41 (by decide) rfl) (inb_vp hin) dX6_beat_132 ?_
        refine r_callVI [] (fun r M1 h => c_X6_costOf (cx_st hC) hz hZ 30 v1 x11 (M12 41 (Int32.toNatClampNeg v1)) _ ⟨by decide, rfl⟩ r M1 h) hf cs_X6_127 hC (z_1 hZ 27 (by decide) rfl) (q0 := (RX6, TX6, 19)) rfl rfl [.ref (Z.1 30), .int v1, .int x11, .int (M12 41 (Int32.toNatClampNeg v1))] rfl rfl rfl (by decide) (by decide) (Nat.le_of_ble_eq_true rfl) (by decide) (by decide) dX6_beat_133 (fun x13 M14 hf => ?_)
        refine r_goto 159 hC dX6_beat_136 (by decide) ?_
        exact r_iret hf hC (by decide) (by decide) dX6_beat_159
    · have hf := if_T hf h
      refine r_iload_n hC dX6_beat_107 3 rfl ?_
      refine r_goto 159 hC dX6_beat_108 (by decide) ?_
      exact r_iret hf hC (by decide) (by decide) dX6_beat_159
  · have hf := if_T hf h
    refine r_aload_n hC dX6_beat_93 0 rfl ?_
    refine gf_X6_50 hC (z_1 hZ 27 (by decide) rfl) rfl dX6_beat_94 ?_
    refine r_iload_n hC dX6_beat_97 1 rfl ?_
    have hin := if_K hf
    have hf := if_V hf
    refine r_iald hC (z_1 hZ 41 (by decide) rfl) (inb_vp hin) dX6_beat_98 ?_
    refine r_goto 159 hC dX6_beat_99 (by decide) ?_
    exact r_iret hf hC (by decide) (by decide) dX6_beat_159
set_option maxRecDepth 20000 in
theorem w_X6_beat_b54 {X : XX} {G : GG} {Z : ZZ} {r : Int32} {M' : Mem} (hC : Cx X G RX6 cX6_beat (some .int) 8 0 0 5) (hz : ZOk G Z) (hZ : ZM Z) (v1 : Int32) (v2 : Int32) (k54 : Int32 → Int32 → Mem → Option (Int32 × Mem)) (hk54 : ∀ (u3 : Int32) (u4 : Int32) (M : Mem), k54 u3 u4 M = some (r, M') → V X G Z M 0 0 (QN X G (QcI G Z r M') 0 0) 54 [(0, .ref (Z.1 27)), (1, .int v1), (2, .int v2), (3, .int u3), (4, .int u4)] []) (v3 : Int32) (v4 : Int32) (M : Mem) (hf : f_X6_beat_b54 v1 v2 k54 v3 v4 M = some (r, M')) : V X G Z M 0 0 (QN X G (QcI G Z r M') 0 0) 54 [(0, .ref (Z.1 27)), (1, .int v1), (2, .int v2), (3, .int v3), (4, .int v4)] [] := by
  unfold f_X6_beat_b54 at hf
  refine r_iload hC dX6_beat_54 4 rfl ?_
  refine r_aload_n hC dX6_beat_56 0 rfl ?_
  refine gf_X6_44 hC (z_1 hZ 27 (by decide) rfl) rfl dX6_beat_57 ?_
  refine r_iload_n hC dX6_beat_60 1 rfl ?_
  have hin := if_K hf
  have hf := if_V hf
  refine r_iald hC (z_1 hZ 39 (by decide) rfl) (inb_vp hin) dX6_beat_61 ?_
  refine r_icmp_gt 89 hC dX6_beat_62 (by decide) (fun h => ?_) (fun h => ?_)
  · have hf := if_T hf h
    refine r_L [0, 1, 2, 3] rfl ?_
    exact w_X6_beat_b89 hC hz hZ v1 v2 v3 _ hf
  · have hf := if_F hf h
    refine r_iload_n hC dX6_beat_65 3 rfl ?_
    refine r_aload_n hC dX6_beat_66 0 rfl ?_
    refine r_iload_n hC dX6_beat_67 1 rfl ?_
    refine r_iload hC dX6_beat_68 4 rfl ?_
    refine r_callVI [.int v3] (fun r M1 h => c_X6_can (cx_st hC) hz hZ v1 v4 _  r M1 h) hf cs_X6_123 hC (z_1 hZ 27 (by decide) rfl) (q0 := (RX6, TX6, 19)) rfl rfl [.int v1, .int v4] rfl rfl rfl (by decide) (by decide) (Nat.le_of_ble_eq_true rfl) (by decide) (by decide) dX6_beat_70 (fun x9 M10 hf => ?_)
    refine r_if_eq 80 hC dX6_beat_73 (by decide) (fun h => ?_) (fun h => ?_)
    · have hf := if_T hf h
      refine r_iconst (v := 0) hC dX6_beat_80 rfl ?_
      refine r_iadd hC dX6_beat_81 ?_
      refine r_istore_n (L' := [(3, .int (v3 + 0)), (0, .ref (Z.1 27)), (1, .int v1), (2, .int v2), (4, .int v4)]) hC dX6_beat_82 (by decide) rfl ?_
      refine r_iinc (v := v4 + 1) (L' := [(4, .int (v4 + 1)), (3, .int (v3 + 0)), (0, .ref (Z.1 27)), (1, .int v1), (2, .int v2)]) hC dX6_beat_83 4 rfl rfl (by decide) rfl ?_
      refine r_goto 54 hC dX6_beat_86 (by decide) ?_
      refine r_L [2, 3, 4, 1, 0] rfl ?_
      exact hk54 _ _ _ hf
    · have hf := if_F hf h
      refine r_iconst (v := 1) hC dX6_beat_76 rfl ?_
      refine r_goto 81 hC dX6_beat_77 (by decide) ?_
      refine r_iadd hC dX6_beat_81 ?_
      refine r_istore_n (L' := [(3, .int (v3 + 1)), (0, .ref (Z.1 27)), (1, .int v1), (2, .int v2), (4, .int v4)]) hC dX6_beat_82 (by decide) rfl ?_
      refine r_iinc (v := v4 + 1) (L' := [(4, .int (v4 + 1)), (3, .int (v3 + 1)), (0, .ref (Z.1 27)), (1, .int v1), (2, .int v2)]) hC dX6_beat_83 4 rfl rfl (by decide) rfl ?_
      refine r_goto 54 hC dX6_beat_86 (by decide) ?_
      refine r_L [2, 3, 4, 1, 0] rfl ?_
      exact hk54 _ _ _ hf
set_option maxRecDepth 20000 in
theorem w_X6_beat_b33 {X : XX} {G : GG} {Z : ZZ} {r : Int32} {M' : Mem} (hC : Cx X G RX6 cX6_beat (some .int) 8 0 0 5) (hz : ZOk G Z) (hZ : ZM Z) (v1 : Int32) (v2 : Int32) (s0 : Int32) (M : Mem) (hf : f_X6_beat_b33 v1 v2 s0 M = some (r, M')) : V X G Z M 0 0 (QN X G (QcI G Z r M') 0 0) 33 [(0, .ref (Z.1 27)), (1, .int v1), (2, .int v2)] [.int s0, .ref (Z.1 27)] := by
  unfold f_X6_beat_b33 at hf
  refine r_callVI [] (fun r M1 h => c_X6_refused (cx_st hC) hz hZ s0 _  r M1 h) hf cs_X6_169 hC (z_1 hZ 27 (by decide) rfl) (q0 := (RX6, TX6, 19)) rfl rfl [.int s0] rfl rfl rfl (by decide) (by decide) (Nat.le_of_ble_eq_true rfl) (by decide) (by decide) dX6_beat_33 (fun x5 M6 hf => ?_)
  refine r_if_eq 41 hC dX6_beat_36 (by decide) (fun h => ?_) (fun h => ?_)
  · have hf := if_T hf h
    refine r_aload_n hC dX6_beat_41 0 rfl ?_
    refine r_aload_n hC dX6_beat_42 0 rfl ?_
    refine gf_X6_16 hC (z_1 hZ 27 (by decide) rfl) rfl dX6_beat_43 ?_
    refine r_callVV [] (fun r M1 h => c_X6_lay (cx_st hC) hz hZ 30 _ ⟨by decide, rfl⟩ r M1 h) hf cs_X6_158 hC (z_1 hZ 27 (by decide) rfl) (q0 := (RX6, TX6, 19)) rfl rfl [.ref (Z.1 30)] rfl rfl rfl (by decide) (by decide) (Nat.le_of_ble_eq_true rfl) (by decide) (by decide) dX6_beat_46 (fun x7 M8 hf => ?_)
    refine r_iconst (v := 0) hC dX6_beat_49 rfl ?_
    refine r_istore_n (L' := [(3, .int 0), (0, .ref (Z.1 27)), (1, .int v1), (2, .int v2)]) hC dX6_beat_50 (by decide) rfl ?_
    refine r_iconst (v := 0) hC dX6_beat_51 rfl ?_
    refine r_istore (L' := [(4, .int 0), (3, .int 0), (0, .ref (Z.1 27)), (1, .int v1), (2, .int v2)]) hC dX6_beat_52 (by decide) rfl ?_
    refine r_L [2, 3, 4, 1, 0] rfl ?_
    exact lq2_ind (P := fun (u3 : Int32) (u4 : Int32) (M : Mem) => V X G Z M 0 0 (QN X G (QcI G Z r M') 0 0) 54 [(0, .ref (Z.1 27)), (1, .int v1), (2, .int v2), (3, .int u3), (4, .int u4)] []) (fun kk hkk u3 u4 M hf => w_X6_beat_b54 hC hz hZ v1 v2 kk hkk u3 u4 M hf) _ _ _ _ hf
  · have hf := if_F hf h
    refine r_iconst (v := 0) hC dX6_beat_39 rfl ?_
    exact r_iret hf hC (by decide) (by decide) dX6_beat_40
set_option maxRecDepth 20000 in
theorem w_X6_beat {X : XX} {G : GG} {Z : ZZ} (hC : Cx X G RX6 cX6_beat (some .int) 8 0 0 5) (hz : ZOk G Z) (hZ : ZM Z) (v1 : Int32) (v2 : Int32) (M : Mem)  {r : Int32} {M' : Mem} (hf : f_X6_beat v1 v2 M = some (r, M')) : V X G Z M 0 0 (QN X G (QcI G Z r M') 0 0) 0 [(0, .ref (Z.1 27)), (1, .int v1), (2, .int v2)] [] := by
  unfold f_X6_beat at hf
  refine r_aload_n hC dX6_beat_0 0 rfl ?_
  refine r_aload_n hC dX6_beat_1 0 rfl ?_
  refine gf_X6_16 hC (z_1 hZ 27 (by decide) rfl) rfl dX6_beat_2 ?_
  refine r_iload_n hC dX6_beat_5 1 rfl ?_
  refine r_callSI [.ref (Z.1 27)] (fun r M1 h => c_X6_isBeat (cx_st hC) hz hZ 30 v1 _ ⟨by decide, rfl⟩ r M1 h) hf cs_X6_211 hC  rfl rfl (by decide) (by decide) (Nat.le_of_ble_eq_true rfl) (by decide) (by decide) dX6_beat_6 (fun x1 M2 hf => ?_)
  refine r_if_ne 16 hC dX6_beat_9 (by decide) (fun h => ?_) (fun h => ?_)
  · have hf := if_F hf h
    refine r_iload_n hC dX6_beat_16 2 rfl ?_
    refine r_i2l hC dX6_beat_17 ?_
    refine r_lconst (v := 0) hC dX6_beat_18 rfl ?_
    refine r_ldc2 (v := 4) hC dX6_beat_19 kw_X6_252 ?_
    refine r_callSI [.ref (Z.1 27)] (fun r M1 h => c_X6_in (cx_st hC) hz hZ (Int32.toInt64 v2) 0 4 _  r M1 h) hf cs_X6_66 hC  rfl rfl (by decide) (by decide) (Nat.le_of_ble_eq_true rfl) (by decide) (by decide) dX6_beat_22 (fun x3 M4 hf => ?_)
    refine r_if_ne 32 hC dX6_beat_25 (by decide) (fun h => ?_) (fun h => ?_)
    · have hf := if_F hf h
      refine r_iconst (v := 0) hC dX6_beat_32 rfl ?_
      exact w_X6_beat_b33 hC hz hZ v1 v2 0 _ hf
    · have hf := if_T hf h
      refine r_iconst (v := 2) hC dX6_beat_28 rfl ?_
      refine r_goto 33 hC dX6_beat_29 (by decide) ?_
      exact w_X6_beat_b33 hC hz hZ v1 v2 2 _ hf
  · have hf := if_T hf h
    refine r_iconst (v := 1) hC dX6_beat_12 rfl ?_
    refine r_goto 33 hC dX6_beat_13 (by decide) ?_
    exact w_X6_beat_b33 hC hz hZ v1 v2 1 _ hf
set_option maxRecDepth 20000 in
theorem c_X6_beat {l : Launch} (hl : l.stackTraces = false) {G : GG} {Z : ZZ} (hz : ZOk G Z) (hZ : ZM Z) (v1 : Int32) (v2 : Int32) (M : Mem)  (r : Int32) (M' : Mem) (hf : f_X6_beat v1 v2 M = some (r, M')) : CN (QcI G Z r M') l G Z yX6_beat cX6_beat 5 (some .int) 8 [.ref (Z.1 27), .int v1, .int v2] M :=
  CN.of [(0, .ref (Z.1 27)), (1, .int v1), (2, .int v2)] hl (by decide +kernel) (Nat.le_of_ble_eq_true rfl) rfl (fun _ hC => w_X6_beat hC hz hZ v1 v2 M  hf)
set_option maxRecDepth 20000 in
theorem w_X6_whole_b18 {X : XX} {G : GG} {Z : ZZ} {r : Int32} {M' : Mem} (hC : Cx X G RX6 cX6_whole (some .int) 9 0 0 2) (hz : ZOk G Z) (hZ : ZM Z) (v1 : Int32) (s0 : Int32) (M : Mem) (hf : f_X6_whole_b18 v1 s0 M = some (r, M')) : V X G Z M 0 0 (QN X G (QcI G Z r M') 0 0) 18 [(0, .ref (Z.1 27)), (1, .int v1)] [.int s0, .ref (Z.1 27)] := by
  unfold f_X6_whole_b18 at hf
  refine r_callVI [] (fun r M1 h => c_X6_refused (cx_st hC) hz hZ s0 _  r M1 h) hf cs_X6_169 hC (z_1 hZ 27 (by decide) rfl) (q0 := (RX6, TX6, 19)) rfl rfl [.int s0] rfl rfl rfl (by decide) (by decide) (Nat.le_of_ble_eq_true rfl) (by decide) (by decide) dX6_whole_18 (fun x3 M4 hf => ?_)
  refine r_if_eq 28 hC dX6_whole_21 (by decide) (fun h => ?_) (fun h => ?_)
  · have hf := if_T hf h
    refine r_aload_n hC dX6_whole_28 0 rfl ?_
    refine r_aload_n hC dX6_whole_29 0 rfl ?_
    refine gf_X6_16 hC (z_1 hZ 27 (by decide) rfl) rfl dX6_whole_30 ?_
    refine r_iload_n hC dX6_whole_33 1 rfl ?_
    refine r_callVI [] (fun r M1 h => c_X6_wholeOf (cx_st hC) hz hZ 30 v1 _ ⟨by decide, rfl⟩ r M1 h) hf cs_X6_256 hC (z_1 hZ 27 (by decide) rfl) (q0 := (RX6, TX6, 19)) rfl rfl [.ref (Z.1 30), .int v1] rfl rfl rfl (by decide) (by decide) (Nat.le_of_ble_eq_true rfl) (by decide) (by decide) dX6_whole_34 (fun x5 M6 hf => ?_)
    exact r_iret hf hC (by decide) (by decide) dX6_whole_37
  · have hf := if_F hf h
    refine r_iconst (v := 0) hC dX6_whole_24 rfl ?_
    refine r_goto 37 hC dX6_whole_25 (by decide) ?_
    exact r_iret hf hC (by decide) (by decide) dX6_whole_37
set_option maxRecDepth 20000 in
theorem w_X6_whole {X : XX} {G : GG} {Z : ZZ} (hC : Cx X G RX6 cX6_whole (some .int) 9 0 0 2) (hz : ZOk G Z) (hZ : ZM Z) (v1 : Int32) (M : Mem)  {r : Int32} {M' : Mem} (hf : f_X6_whole v1 M = some (r, M')) : V X G Z M 0 0 (QN X G (QcI G Z r M') 0 0) 0 [(0, .ref (Z.1 27)), (1, .int v1)] [] := by
  unfold f_X6_whole at hf
  refine r_aload_n hC dX6_whole_0 0 rfl ?_
  refine r_iload_n hC dX6_whole_1 1 rfl ?_
  refine r_i2l hC dX6_whole_2 ?_
  refine r_lconst (v := 0) hC dX6_whole_3 rfl ?_
  refine r_ldc2 (v := 7) hC dX6_whole_4 kw_X6_254 ?_
  refine r_callSI [.ref (Z.1 27)] (fun r M1 h => c_X6_in (cx_st hC) hz hZ (Int32.toInt64 v1) 0 7 _  r M1 h) hf cs_X6_66 hC  rfl rfl (by decide) (by decide) (Nat.le_of_ble_eq_true rfl) (by decide) (by decide) dX6_whole_7 (fun x1 M2 hf => ?_)
  refine r_if_eq 17 hC dX6_whole_10 (by decide) (fun h => ?_) (fun h => ?_)
  · have hf := if_T hf h
    refine r_iconst (v := 1) hC dX6_whole_17 rfl ?_
    exact w_X6_whole_b18 hC hz hZ v1 1 _ hf
  · have hf := if_F hf h
    refine r_iconst (v := 0) hC dX6_whole_13 rfl ?_
    refine r_goto 18 hC dX6_whole_14 (by decide) ?_
    exact w_X6_whole_b18 hC hz hZ v1 0 _ hf
set_option maxRecDepth 20000 in
theorem c_X6_whole {l : Launch} (hl : l.stackTraces = false) {G : GG} {Z : ZZ} (hz : ZOk G Z) (hZ : ZM Z) (v1 : Int32) (M : Mem)  (r : Int32) (M' : Mem) (hf : f_X6_whole v1 M = some (r, M')) : CN (QcI G Z r M') l G Z yX6_whole cX6_whole 2 (some .int) 9 [.ref (Z.1 27), .int v1] M :=
  CN.of [(0, .ref (Z.1 27)), (1, .int v1)] hl (by decide +kernel) (Nat.le_of_ble_eq_true rfl) rfl (fun _ hC => w_X6_whole hC hz hZ v1 M  hf)
set_option maxRecDepth 20000 in
theorem w_X6_whatIf_b26 {X : XX} {G : GG} {Z : ZZ} {r : Int32} {M' : Mem} (hC : Cx X G RX6 cX6_whatIf (some .int) 9 0 0 4) (hz : ZOk G Z) (hZ : ZM Z) (v1 : Int32) (v2 : Int32) (v3 : Int32) (s0 : Int32) (M : Mem) (hf : f_X6_whatIf_b26 v1 v2 v3 s0 M = some (r, M')) : V X G Z M 0 0 (QN X G (QcI G Z r M') 0 0) 26 [(0, .ref (Z.1 27)), (1, .int v1), (2, .int v2), (3, .int v3)] [.int s0, .ref (Z.1 27)] := by
  unfold f_X6_whatIf_b26 at hf
  refine r_callVI [] (fun r M1 h => c_X6_refused (cx_st hC) hz hZ s0 _  r M1 h) hf cs_X6_169 hC (z_1 hZ 27 (by decide) rfl) (q0 := (RX6, TX6, 19)) rfl rfl [.int s0] rfl rfl rfl (by decide) (by decide) (Nat.le_of_ble_eq_true rfl) (by decide) (by decide) dX6_whatIf_26 (fun x5 M6 hf => ?_)
  refine r_if_eq 34 hC dX6_whatIf_29 (by decide) (fun h => ?_) (fun h => ?_)
  · have hf := if_T hf h
    refine r_aload_n hC dX6_whatIf_34 0 rfl ?_
    refine gf_X6_16 hC (z_1 hZ 27 (by decide) rfl) rfl dX6_whatIf_35 ?_
    refine r_iconst (v := 0) hC dX6_whatIf_38 rfl ?_
    refine r_aload_n hC dX6_whatIf_39 0 rfl ?_
    refine gf_X6_22 hC (z_1 hZ 27 (by decide) rfl) rfl dX6_whatIf_40 ?_
    refine r_iconst (v := 0) hC dX6_whatIf_43 rfl ?_
    refine r_callSV [] (fun r M1 h => c_X6_copyPage (cx_st hC) hz hZ 30 0 32 0 _ ⟨by decide, rfl⟩ ⟨by decide, rfl⟩ r M1 h) hf cs_X6_192 hC  rfl rfl (by decide) (by decide) (Nat.le_of_ble_eq_true rfl) (by decide) (by decide) dX6_whatIf_44 (fun x7 M8 hf => ?_)
    refine r_aload_n hC dX6_whatIf_47 0 rfl ?_
    refine gf_X6_22 hC (z_1 hZ 27 (by decide) rfl) rfl dX6_whatIf_48 ?_
    refine r_iload_n hC dX6_whatIf_51 1 rfl ?_
    refine r_iload_n hC dX6_whatIf_52 2 rfl ?_
    have hin := if_K hf
    have hf := if_V hf
    refine r_iast hC hz (z_1 hZ 32 (by decide) rfl) (inb_vp hin) dX6_whatIf_53 ?_
    refine r_aload_n hC dX6_whatIf_54 0 rfl ?_
    refine r_aload_n hC dX6_whatIf_55 0 rfl ?_
    refine gf_X6_22 hC (z_1 hZ 27 (by decide) rfl) rfl dX6_whatIf_56 ?_
    refine r_iload_n hC dX6_whatIf_59 3 rfl ?_
    refine r_callVI [] (fun r M1 h => c_X6_wholeOf (cx_st hC) hz hZ 32 v3 _ ⟨by decide, rfl⟩ r M1 h) hf cs_X6_256 hC (z_1 hZ 27 (by decide) rfl) (q0 := (RX6, TX6, 19)) rfl rfl [.ref (Z.1 32), .int v3] rfl rfl rfl (by decide) (by decide) (Nat.le_of_ble_eq_true rfl) (by decide) (by decide) dX6_whatIf_60 (fun x9 M10 hf => ?_)
    exact r_iret hf hC (by decide) (by decide) dX6_whatIf_63
  · have hf := if_F hf h
    refine r_iconst (v := 0) hC dX6_whatIf_32 rfl ?_
    exact r_iret hf hC (by decide) (by decide) dX6_whatIf_33
set_option maxRecDepth 20000 in
theorem w_X6_whatIf_b25 {X : XX} {G : GG} {Z : ZZ} {r : Int32} {M' : Mem} (hC : Cx X G RX6 cX6_whatIf (some .int) 9 0 0 4) (hz : ZOk G Z) (hZ : ZM Z) (v1 : Int32) (v2 : Int32) (v3 : Int32) (M : Mem) (hf : f_X6_whatIf_b25 v1 v2 v3 M = some (r, M')) : V X G Z M 0 0 (QN X G (QcI G Z r M') 0 0) 25 [(0, .ref (Z.1 27)), (1, .int v1), (2, .int v2), (3, .int v3)] [.ref (Z.1 27)] := by
  unfold f_X6_whatIf_b25 at hf
  refine r_iconst (v := 1) hC dX6_whatIf_25 rfl ?_
  exact w_X6_whatIf_b26 hC hz hZ v1 v2 v3 1 _ hf
set_option maxRecDepth 20000 in
theorem w_X6_whatIf {X : XX} {G : GG} {Z : ZZ} (hC : Cx X G RX6 cX6_whatIf (some .int) 9 0 0 4) (hz : ZOk G Z) (hZ : ZM Z) (v1 : Int32) (v2 : Int32) (v3 : Int32) (M : Mem)  {r : Int32} {M' : Mem} (hf : f_X6_whatIf v1 v2 v3 M = some (r, M')) : V X G Z M 0 0 (QN X G (QcI G Z r M') 0 0) 0 [(0, .ref (Z.1 27)), (1, .int v1), (2, .int v2), (3, .int v3)] [] := by
  unfold f_X6_whatIf at hf
  refine r_aload_n hC dX6_whatIf_0 0 rfl ?_
  refine r_iload_n hC dX6_whatIf_1 1 rfl ?_
  refine r_iload_n hC dX6_whatIf_2 2 rfl ?_
  refine r_callSI [.ref (Z.1 27)] (fun r M1 h => c_X6_isSetting (cx_st hC) hz hZ v1 v2 _  r M1 h) hf cs_X6_217 hC  rfl rfl (by decide) (by decide) (Nat.le_of_ble_eq_true rfl) (by decide) (by decide) dX6_whatIf_3 (fun x1 M2 hf => ?_)
  refine r_if_eq 25 hC dX6_whatIf_6 (by decide) (fun h => ?_) (fun h => ?_)
  · have hf := if_T hf h
    exact w_X6_whatIf_b25 hC hz hZ v1 v2 v3 _ hf
  · have hf := if_F hf h
    refine r_iload_n hC dX6_whatIf_9 3 rfl ?_
    refine r_i2l hC dX6_whatIf_10 ?_
    refine r_lconst (v := 0) hC dX6_whatIf_11 rfl ?_
    refine r_ldc2 (v := 7) hC dX6_whatIf_12 kw_X6_254 ?_
    refine r_callSI [.ref (Z.1 27)] (fun r M1 h => c_X6_in (cx_st hC) hz hZ (Int32.toInt64 v3) 0 7 _  r M1 h) hf cs_X6_66 hC  rfl rfl (by decide) (by decide) (Nat.le_of_ble_eq_true rfl) (by decide) (by decide) dX6_whatIf_15 (fun x3 M4 hf => ?_)
    refine r_if_eq 25 hC dX6_whatIf_18 (by decide) (fun h => ?_) (fun h => ?_)
    · have hf := if_T hf h
      exact w_X6_whatIf_b25 hC hz hZ v1 v2 v3 _ hf
    · have hf := if_F hf h
      refine r_iconst (v := 0) hC dX6_whatIf_21 rfl ?_
      refine r_goto 26 hC dX6_whatIf_22 (by decide) ?_
      exact w_X6_whatIf_b26 hC hz hZ v1 v2 v3 0 _ hf
set_option maxRecDepth 20000 in
theorem c_X6_whatIf {l : Launch} (hl : l.stackTraces = false) {G : GG} {Z : ZZ} (hz : ZOk G Z) (hZ : ZM Z) (v1 : Int32) (v2 : Int32) (v3 : Int32) (M : Mem)  (r : Int32) (M' : Mem) (hf : f_X6_whatIf v1 v2 v3 M = some (r, M')) : CN (QcI G Z r M') l G Z yX6_whatIf cX6_whatIf 4 (some .int) 9 [.ref (Z.1 27), .int v1, .int v2, .int v3] M :=
  CN.of [(0, .ref (Z.1 27)), (1, .int v1), (2, .int v2), (3, .int v3)] hl (by decide +kernel) (Nat.le_of_ble_eq_true rfl) rfl (fun _ hC => w_X6_whatIf hC hz hZ v1 v2 v3 M  hf)
set_option maxRecDepth 20000 in
theorem w_X6_smallestSpan_b20 {X : XX} {G : GG} {Z : ZZ} {r : Int32} {M' : Mem} (hC : Cx X G RX6 cX6_smallestSpan (some .int) 9 0 0 2) (hz : ZOk G Z) (hZ : ZM Z) (k20 : Int32 → Mem → Option (Int32 × Mem)) (hk20 : ∀ (u1 : Int32) (M : Mem), k20 u1 M = some (r, M') → V X G Z M 0 0 (QN X G (QcI G Z r M') 0 0) 20 [(0, .ref (Z.1 27)), (1, .int u1)] []) (v1 : Int32) (M : Mem) (hf : f_X6_smallestSpan_b20 k20 v1 M = some (r, M')) : V X G Z M 0 0 (QN X G (QcI G Z r M') 0 0) 20 [(0, .ref (Z.1 27)), (1, .int v1)] [] := by
  unfold f_X6_smallestSpan_b20 at hf
  refine r_iload_n hC dX6_smallestSpan_20 1 rfl ?_
  refine r_bipush (v := 24) hC dX6_smallestSpan_21 rfl ?_
  refine r_icmp_gt 60 hC dX6_smallestSpan_23 (by decide) (fun h => ?_) (fun h => ?_)
  · have hf := if_T hf h
    refine r_bipush (v := (-9)) hC dX6_smallestSpan_60 rfl ?_
    exact r_iret hf hC (by decide) (by decide) dX6_smallestSpan_62
  · have hf := if_F hf h
    refine r_aload_n hC dX6_smallestSpan_26 0 rfl ?_
    refine gf_X6_22 hC (z_1 hZ 27 (by decide) rfl) rfl dX6_smallestSpan_27 ?_
    refine r_iconst (v := 0) hC dX6_smallestSpan_30 rfl ?_
    refine r_iload_n hC dX6_smallestSpan_31 1 rfl ?_
    have hin := if_K hf
    have hf := if_V hf
    refine r_iast hC hz (z_1 hZ 32 (by decide) rfl) (inb_vp hin) dX6_smallestSpan_32 ?_
    refine r_aload_n hC dX6_smallestSpan_33 0 rfl ?_
    refine gf_X6_22 hC (z_1 hZ 27 (by decide) rfl) rfl dX6_smallestSpan_34 ?_
    refine r_iconst (v := 1) hC dX6_smallestSpan_37 rfl ?_
    refine r_iload_n hC dX6_smallestSpan_38 1 rfl ?_
    have hin := if_K hf
    have hf := if_V hf
    refine r_iast hC hz (z_1 hZ 32 (by decide) rfl) (inb_vp hin) dX6_smallestSpan_39 ?_
    refine r_aload_n hC dX6_smallestSpan_40 0 rfl ?_
    refine r_aload_n hC dX6_smallestSpan_41 0 rfl ?_
    refine gf_X6_22 hC (z_1 hZ 27 (by decide) rfl) rfl dX6_smallestSpan_42 ?_
    refine r_iconst (v := 3) hC dX6_smallestSpan_45 rfl ?_
    refine r_callVI [] (fun r M1 h => c_X6_wholeOf (cx_st hC) hz hZ 32 3 _ ⟨by decide, rfl⟩ r M1 h) hf cs_X6_256 hC (z_1 hZ 27 (by decide) rfl) (q0 := (RX6, TX6, 19)) rfl rfl [.ref (Z.1 32), .int 3] rfl rfl rfl (by decide) (by decide) (Nat.le_of_ble_eq_true rfl) (by decide) (by decide) dX6_smallestSpan_46 (fun x3 M4 hf => ?_)
    refine r_if_ne 54 hC dX6_smallestSpan_49 (by decide) (fun h => ?_) (fun h => ?_)
    · have hf := if_F hf h
      refine r_iinc (v := v1 + 1) (L' := [(1, .int (v1 + 1)), (0, .ref (Z.1 27))]) hC dX6_smallestSpan_54 1 rfl rfl (by decide) rfl ?_
      refine r_goto 20 hC dX6_smallestSpan_57 (by decide) ?_
      refine r_L [1, 0] rfl ?_
      exact hk20 _ _ hf
    · have hf := if_T hf h
      refine r_iload_n hC dX6_smallestSpan_52 1 rfl ?_
      exact r_iret hf hC (by decide) (by decide) dX6_smallestSpan_53
set_option maxRecDepth 20000 in
theorem w_X6_smallestSpan {X : XX} {G : GG} {Z : ZZ} (hC : Cx X G RX6 cX6_smallestSpan (some .int) 9 0 0 2) (hz : ZOk G Z) (hZ : ZM Z)  (M : Mem)  {r : Int32} {M' : Mem} (hf : f_X6_smallestSpan  M = some (r, M')) : V X G Z M 0 0 (QN X G (QcI G Z r M') 0 0) 0 [(0, .ref (Z.1 27))] [] := by
  unfold f_X6_smallestSpan at hf
  refine r_aload_n hC dX6_smallestSpan_0 0 rfl ?_
  refine r_iconst (v := 0) hC dX6_smallestSpan_1 rfl ?_
  refine pf_X6_60 hC hz (z_1 hZ 27 (by decide) rfl) rfl dX6_smallestSpan_2 ?_
  refine r_aload_n hC dX6_smallestSpan_5 0 rfl ?_
  refine gf_X6_16 hC (z_1 hZ 27 (by decide) rfl) rfl dX6_smallestSpan_6 ?_
  refine r_iconst (v := 0) hC dX6_smallestSpan_9 rfl ?_
  refine r_aload_n hC dX6_smallestSpan_10 0 rfl ?_
  refine gf_X6_22 hC (z_1 hZ 27 (by decide) rfl) rfl dX6_smallestSpan_11 ?_
  refine r_iconst (v := 0) hC dX6_smallestSpan_14 rfl ?_
  refine r_callSV [] (fun r M1 h => c_X6_copyPage (cx_st hC) hz hZ 30 0 32 0 _ ⟨by decide, rfl⟩ ⟨by decide, rfl⟩ r M1 h) hf cs_X6_192 hC  rfl rfl (by decide) (by decide) (Nat.le_of_ble_eq_true rfl) (by decide) (by decide) dX6_smallestSpan_15 (fun x1 M2 hf => ?_)
  refine r_iconst (v := 1) hC dX6_smallestSpan_18 rfl ?_
  refine r_istore_n (L' := [(1, .int 1), (0, .ref (Z.1 27))]) hC dX6_smallestSpan_19 (by decide) rfl ?_
  refine r_L [1, 0] rfl ?_
  exact lq1_ind (P := fun (u1 : Int32) (M : Mem) => V X G Z M 0 0 (QN X G (QcI G Z r M') 0 0) 20 [(0, .ref (Z.1 27)), (1, .int u1)] []) (fun kk hkk u1 M hf => w_X6_smallestSpan_b20 hC hz hZ  kk hkk u1 M hf) _ _ _ hf
set_option maxRecDepth 20000 in
theorem c_X6_smallestSpan {l : Launch} (hl : l.stackTraces = false) {G : GG} {Z : ZZ} (hz : ZOk G Z) (hZ : ZM Z)  (M : Mem)  (r : Int32) (M' : Mem) (hf : f_X6_smallestSpan  M = some (r, M')) : CN (QcI G Z r M') l G Z yX6_smallestSpan cX6_smallestSpan 2 (some .int) 9 [.ref (Z.1 27)] M :=
  CN.of [(0, .ref (Z.1 27))] hl (by decide +kernel) (Nat.le_of_ble_eq_true rfl) rfl (fun _ hC => w_X6_smallestSpan hC hz hZ  M  hf)
set_option maxRecDepth 20000 in
theorem w_X6_dearest_b108 {X : XX} {G : GG} {Z : ZZ} {r : Int32} {M' : Mem} (hC : Cx X G RX6 cX6_dearest (some .int) 9 0 0 6) (hz : ZOk G Z) (hZ : ZM Z) (v2 : Int32) (v3 : Int32) (v4 : Int32) (v5 : Int32) (k12 : Int32 → Int32 → Int32 → Mem → Option (Int32 × Mem)) (hk12 : ∀ (u1 : Int32) (u2 : Int32) (u3 : Int32) (M : Mem), k12 u1 u2 u3 M = some (r, M') → V X G Z M 0 0 (QN X G (QcI G Z r M') 0 0) 12 [(0, .ref (Z.1 27)), (1, .int u1), (2, .int u2), (3, .int u3)] []) (s0 : Int32) (M : Mem) (hf : f_X6_dearest_b108 v2 v3 v4 v5 k12 s0 M = some (r, M')) : V X G Z M 0 0 (QN X G (QcI G Z r M') 0 0) 108 [(0, .ref (Z.1 27)), (2, .int v2), (3, .int v3), (4, .int v4), (5, .int v5)] [.int s0] := by
  unfold f_X6_dearest_b108 at hf
  refine r_istore_n (L' := [(1, .int s0), (0, .ref (Z.1 27)), (2, .int v2), (3, .int v3), (4, .int v4), (5, .int v5)]) hC dX6_dearest_108 (by decide) rfl ?_
  refine r_iload hC dX6_dearest_109 5 rfl ?_
  refine r_if_eq 119 hC dX6_dearest_111 (by decide) (fun h => ?_) (fun h => ?_)
  · have hf := if_T hf h
    refine r_iload_n hC dX6_dearest_119 2 rfl ?_
    refine r_istore_n (L' := [(2, .int v2), (1, .int s0), (0, .ref (Z.1 27)), (3, .int v3), (4, .int v4), (5, .int v5)]) hC dX6_dearest_120 (by decide) rfl ?_
    refine r_iinc (v := v3 + 1) (L' := [(3, .int (v3 + 1)), (2, .int v2), (1, .int s0), (0, .ref (Z.1 27)), (4, .int v4), (5, .int v5)]) hC dX6_dearest_121 3 rfl rfl (by decide) rfl ?_
    refine r_goto 12 hC dX6_dearest_124 (by decide) ?_
    refine r_L [3, 2, 1, 0] rfl ?_
    exact hk12 _ _ _ _ hf
  · have hf := if_F hf h
    refine r_iload hC dX6_dearest_114 4 rfl ?_
    refine r_goto 120 hC dX6_dearest_116 (by decide) ?_
    refine r_istore_n (L' := [(2, .int v4), (1, .int s0), (0, .ref (Z.1 27)), (3, .int v3), (4, .int v4), (5, .int v5)]) hC dX6_dearest_120 (by decide) rfl ?_
    refine r_iinc (v := v3 + 1) (L' := [(3, .int (v3 + 1)), (2, .int v4), (1, .int s0), (0, .ref (Z.1 27)), (4, .int v4), (5, .int v5)]) hC dX6_dearest_121 3 rfl rfl (by decide) rfl ?_
    refine r_goto 12 hC dX6_dearest_124 (by decide) ?_
    refine r_L [3, 2, 1, 0] rfl ?_
    exact hk12 _ _ _ _ hf
set_option maxRecDepth 20000 in
theorem w_X6_dearest_b96 {X : XX} {G : GG} {Z : ZZ} {r : Int32} {M' : Mem} (hC : Cx X G RX6 cX6_dearest (some .int) 9 0 0 6) (hz : ZOk G Z) (hZ : ZM Z) (v1 : Int32) (v2 : Int32) (v3 : Int32) (v4 : Int32) (k12 : Int32 → Int32 → Int32 → Mem → Option (Int32 × Mem)) (hk12 : ∀ (u1 : Int32) (u2 : Int32) (u3 : Int32) (M : Mem), k12 u1 u2 u3 M = some (r, M') → V X G Z M 0 0 (QN X G (QcI G Z r M') 0 0) 12 [(0, .ref (Z.1 27)), (1, .int u1), (2, .int u2), (3, .int u3)] []) (s0 : Int32) (M : Mem) (hf : f_X6_dearest_b96 v1 v2 v3 v4 k12 s0 M = some (r, M')) : V X G Z M 0 0 (QN X G (QcI G Z r M') 0 0) 96 [(0, .ref (Z.1 27)), (1, .int v1), (2, .int v2), (3, .int v3), (4, .int v4)] [.int s0] := by
  unfold f_X6_dearest_b96 at hf
  refine r_istore (L' := [(5, .int s0), (0, .ref (Z.1 27)), (1, .int v1), (2, .int v2), (3, .int v3), (4, .int v4)]) hC dX6_dearest_96 (by decide) rfl ?_
  refine r_iload hC dX6_dearest_98 0 rfl ?_
  refine r_if_eq 107 hC dX6_dearest_100 (by decide) (fun h => ?_) (fun h => ?_)
  · have hf := if_T hf h
    refine r_iload_n hC dX6_dearest_107 2 rfl ?_
    refine r_L [1, 3, 4, 5, 0] rfl ?_
    exact w_X6_dearest_b108 hC hz hZ v2 v3 v4 s0 k12 hk12 v1 _ hf
  · have hf := if_F hf h
    refine r_iload_n hC dX6_dearest_103 4 rfl ?_
    refine r_goto 108 hC dX6_dearest_104 (by decide) ?_
    refine r_L [1, 3, 4, 5, 0] rfl ?_
    exact w_X6_dearest_b108 hC hz hZ v2 v3 v4 s0 k12 hk12 v3 _ hf
set_option maxRecDepth 20000 in
theorem w_X6_dearest_b91 {X : XX} {G : GG} {Z : ZZ} {r : Int32} {M' : Mem} (hC : Cx X G RX6 cX6_dearest (some .int) 9 0 0 6) (hz : ZOk G Z) (hZ : ZM Z) (v1 : Int32) (v2 : Int32) (v3 : Int32) (v4 : Int32) (k12 : Int32 → Int32 → Int32 → Mem → Option (Int32 × Mem)) (hk12 : ∀ (u1 : Int32) (u2 : Int32) (u3 : Int32) (M : Mem), k12 u1 u2 u3 M = some (r, M') → V X G Z M 0 0 (QN X G (QcI G Z r M') 0 0) 12 [(0, .ref (Z.1 27)), (1, .int u1), (2, .int u2), (3, .int u3)] []) (M : Mem) (hf : f_X6_dearest_b91 v1 v2 v3 v4 k12 M = some (r, M')) : V X G Z M 0 0 (QN X G (QcI G Z r M') 0 0) 91 [(0, .ref (Z.1 27)), (1, .int v1), (2, .int v2), (3, .int v3), (4, .int v4)] [] := by
  unfold f_X6_dearest_b91 at hf
  refine r_iconst (v := 1) hC dX6_dearest_91 rfl ?_
  refine r_goto 96 hC dX6_dearest_92 (by decide) ?_
  exact w_X6_dearest_b96 hC hz hZ v1 v2 v3 v4 k12 hk12 1 _ hf
set_option maxRecDepth 20000 in
theorem w_X6_dearest_b68 {X : XX} {G : GG} {Z : ZZ} {r : Int32} {M' : Mem} (hC : Cx X G RX6 cX6_dearest (some .int) 9 0 0 6) (hz : ZOk G Z) (hZ : ZM Z) (v1 : Int32) (v2 : Int32) (v3 : Int32) (k12 : Int32 → Int32 → Int32 → Mem → Option (Int32 × Mem)) (hk12 : ∀ (u1 : Int32) (u2 : Int32) (u3 : Int32) (M : Mem), k12 u1 u2 u3 M = some (r, M') → V X G Z M 0 0 (QN X G (QcI G Z r M') 0 0) 12 [(0, .ref (Z.1 27)), (1, .int u1), (2, .int u2), (3, .int u3)] []) (M : Mem) (hf : f_X6_dearest_b68 v1 v2 v3 k12 M = some (r, M')) : V X G Z M 0 0 (QN X G (QcI G Z r M') 0 0) 68 [(0, .ref (Z.1 27)), (1, .int v1), (2, .int v2), (3, .int v3)] [] := by
  unfold f_X6_dearest_b68 at hf
  refine r_aload_n hC dX6_dearest_68 0 rfl ?_
  refine r_aload_n hC dX6_dearest_69 0 rfl ?_
  refine gf_X6_22 hC (z_1 hZ 27 (by decide) rfl) rfl dX6_dearest_70 ?_
  refine r_iconst (v := 0) hC dX6_dearest_73 rfl ?_
  refine r_callVI [] (fun r M1 h => c_X6_wholeOf (cx_st hC) hz hZ 32 0 _ ⟨by decide, rfl⟩ r M1 h) hf cs_X6_256 hC (z_1 hZ 27 (by decide) rfl) (q0 := (RX6, TX6, 19)) rfl rfl [.ref (Z.1 32), .int 0] rfl rfl rfl (by decide) (by decide) (Nat.le_of_ble_eq_true rfl) (by decide) (by decide) dX6_dearest_74 (fun x5 M6 hf => ?_)
  refine r_istore (L' := [(4, .int x5), (0, .ref (Z.1 27)), (1, .int v1), (2, .int v2), (3, .int v3)]) hC dX6_dearest_77 (by decide) rfl ?_
  refine r_iload_n hC dX6_dearest_79 2 rfl ?_
  refine r_bipush (v := (-9)) hC dX6_dearest_80 rfl ?_
  refine r_icmp_eq 91 hC dX6_dearest_82 (by decide) (fun h => ?_) (fun h => ?_)
  · have hf := if_T hf h
    refine r_L [1, 2, 3, 4, 0] rfl ?_
    exact w_X6_dearest_b91 hC hz hZ v1 v2 v3 x5 k12 hk12 _ hf
  · have hf := if_F hf h
    refine r_iload hC dX6_dearest_85 0 rfl ?_
    refine r_iload_n hC dX6_dearest_87 3 rfl ?_
    refine r_icmp_ge 95 hC dX6_dearest_88 (by decide) (fun h => ?_) (fun h => ?_)
    · have hf := if_T hf h
      refine r_iconst (v := 0) hC dX6_dearest_95 rfl ?_
      refine r_L [1, 2, 3, 4, 0] rfl ?_
      exact w_X6_dearest_b96 hC hz hZ v1 v2 v3 x5 k12 hk12 0 _ hf
    · have hf := if_F hf h
      refine r_L [1, 2, 3, 4, 0] rfl ?_
      exact w_X6_dearest_b91 hC hz hZ v1 v2 v3 x5 k12 hk12 _ hf
set_option maxRecDepth 20000 in
theorem w_X6_dearest_b39 {X : XX} {G : GG} {Z : ZZ} {r : Int32} {M' : Mem} (hC : Cx X G RX6 cX6_dearest (some .int) 9 0 0 6) (hz : ZOk G Z) (hZ : ZM Z) (v1 : Int32) (v2 : Int32) (v3 : Int32) (k12 : Int32 → Int32 → Int32 → Mem → Option (Int32 × Mem)) (hk12 : ∀ (u1 : Int32) (u2 : Int32) (u3 : Int32) (M : Mem), k12 u1 u2 u3 M = some (r, M') → V X G Z M 0 0 (QN X G (QcI G Z r M') 0 0) 12 [(0, .ref (Z.1 27)), (1, .int u1), (2, .int u2), (3, .int u3)] []) (k39 : Int32 → Mem → Option (Int32 × Mem)) (hk39 : ∀ (u4 : Int32) (M : Mem), k39 u4 M = some (r, M') → V X G Z M 0 0 (QN X G (QcI G Z r M') 0 0) 39 [(0, .ref (Z.1 27)), (1, .int v1), (2, .int v2), (3, .int v3), (4, .int u4)] []) (v4 : Int32) (M : Mem) (hf : f_X6_dearest_b39 v1 v2 v3 k12 k39 v4 M = some (r, M')) : V X G Z M 0 0 (QN X G (QcI G Z r M') 0 0) 39 [(0, .ref (Z.1 27)), (1, .int v1), (2, .int v2), (3, .int v3), (4, .int v4)] [] := by
  unfold f_X6_dearest_b39 at hf
  refine r_iload hC dX6_dearest_39 4 rfl ?_
  refine r_bipush (v := 16) hC dX6_dearest_41 rfl ?_
  refine r_icmp_ge 68 hC dX6_dearest_43 (by decide) (fun h => ?_) (fun h => ?_)
  · have hf := if_T hf h
    refine r_L [0, 1, 2, 3] rfl ?_
    exact w_X6_dearest_b68 hC hz hZ v1 v2 v3 k12 hk12 _ hf
  · have hf := if_F hf h
    refine r_aload_n hC dX6_dearest_46 0 rfl ?_
    refine gf_X6_22 hC (z_1 hZ 27 (by decide) rfl) rfl dX6_dearest_47 ?_
    refine r_bipush (v := 8) hC dX6_dearest_50 rfl ?_
    refine r_iload_n hC dX6_dearest_52 3 rfl ?_
    refine r_iload hC dX6_dearest_53 4 rfl ?_
    refine r_callSI [.int 8, .ref (Z.1 32)] (fun r M1 h => c_X6_at (cx_st hC) hz hZ v3 v4 _  r M1 h) hf cs_X6_70 hC  rfl rfl (by decide) (by decide) (Nat.le_of_ble_eq_true rfl) (by decide) (by decide) dX6_dearest_55 (fun x3 M4 hf => ?_)
    refine r_iadd hC dX6_dearest_58 ?_
    refine r_bipush (v := (-9)) hC dX6_dearest_59 rfl ?_
    have hin := if_K hf
    have hf := if_V hf
    refine r_iast hC hz (z_1 hZ 32 (by decide) rfl) (inb_vp hin) dX6_dearest_61 ?_
    refine r_iinc (v := v4 + 1) (L' := [(4, .int (v4 + 1)), (0, .ref (Z.1 27)), (1, .int v1), (2, .int v2), (3, .int v3)]) hC dX6_dearest_62 4 rfl rfl (by decide) rfl ?_
    refine r_goto 39 hC dX6_dearest_65 (by decide) ?_
    refine r_L [1, 2, 3, 4, 0] rfl ?_
    exact hk39 _ _ hf
set_option maxRecDepth 20000 in
theorem w_X6_dearest_b12 {X : XX} {G : GG} {Z : ZZ} {r : Int32} {M' : Mem} (hC : Cx X G RX6 cX6_dearest (some .int) 9 0 0 6) (hz : ZOk G Z) (hZ : ZM Z) (k12 : Int32 → Int32 → Int32 → Mem → Option (Int32 × Mem)) (hk12 : ∀ (u1 : Int32) (u2 : Int32) (u3 : Int32) (M : Mem), k12 u1 u2 u3 M = some (r, M') → V X G Z M 0 0 (QN X G (QcI G Z r M') 0 0) 12 [(0, .ref (Z.1 27)), (1, .int u1), (2, .int u2), (3, .int u3)] []) (v1 : Int32) (v2 : Int32) (v3 : Int32) (M : Mem) (hf : f_X6_dearest_b12 k12 v1 v2 v3 M = some (r, M')) : V X G Z M 0 0 (QN X G (QcI G Z r M') 0 0) 12 [(0, .ref (Z.1 27)), (1, .int v1), (2, .int v2), (3, .int v3)] [] := by
  unfold f_X6_dearest_b12 at hf
  refine r_iload_n hC dX6_dearest_12 3 rfl ?_
  refine r_aload_n hC dX6_dearest_13 0 rfl ?_
  refine gf_X6_16 hC (z_1 hZ 27 (by decide) rfl) rfl dX6_dearest_14 ?_
  refine r_bipush (v := 6) hC dX6_dearest_17 rfl ?_
  have hin := if_K hf
  have hf := if_V hf
  refine r_iald hC (z_1 hZ 30 (by decide) rfl) (inb_vp hin) dX6_dearest_19 ?_
  refine r_icmp_ge 127 hC dX6_dearest_20 (by decide) (fun h => ?_) (fun h => ?_)
  · have hf := if_T hf h
    refine r_iload_n hC dX6_dearest_127 1 rfl ?_
    exact r_iret hf hC (by decide) (by decide) dX6_dearest_128
  · have hf := if_F hf h
    refine r_aload_n hC dX6_dearest_23 0 rfl ?_
    refine gf_X6_16 hC (z_1 hZ 27 (by decide) rfl) rfl dX6_dearest_24 ?_
    refine r_iconst (v := 0) hC dX6_dearest_27 rfl ?_
    refine r_aload_n hC dX6_dearest_28 0 rfl ?_
    refine gf_X6_22 hC (z_1 hZ 27 (by decide) rfl) rfl dX6_dearest_29 ?_
    refine r_iconst (v := 0) hC dX6_dearest_32 rfl ?_
    refine r_callSV [] (fun r M1 h => c_X6_copyPage (cx_st hC) hz hZ 30 0 32 0 _ ⟨by decide, rfl⟩ ⟨by decide, rfl⟩ r M1 h) hf cs_X6_192 hC  rfl rfl (by decide) (by decide) (Nat.le_of_ble_eq_true rfl) (by decide) (by decide) dX6_dearest_33 (fun x1 M2 hf => ?_)
    refine r_iconst (v := 0) hC dX6_dearest_36 rfl ?_
    refine r_istore (L' := [(4, .int 0), (0, .ref (Z.1 27)), (1, .int v1), (2, .int v2), (3, .int v3)]) hC dX6_dearest_37 (by decide) rfl ?_
    refine r_L [1, 2, 3, 4, 0] rfl ?_
    exact lq1_ind (P := fun (u4 : Int32) (M : Mem) => V X G Z M 0 0 (QN X G (QcI G Z r M') 0 0) 39 [(0, .ref (Z.1 27)), (1, .int v1), (2, .int v2), (3, .int v3), (4, .int u4)] []) (fun kk hkk u4 M hf => w_X6_dearest_b39 hC hz hZ v1 v2 v3 k12 hk12 kk hkk u4 M hf) _ _ _ hf
set_option maxRecDepth 20000 in
theorem w_X6_dearest {X : XX} {G : GG} {Z : ZZ} (hC : Cx X G RX6 cX6_dearest (some .int) 9 0 0 6) (hz : ZOk G Z) (hZ : ZM Z)  (M : Mem)  {r : Int32} {M' : Mem} (hf : f_X6_dearest  M = some (r, M')) : V X G Z M 0 0 (QN X G (QcI G Z r M') 0 0) 0 [(0, .ref (Z.1 27))] [] := by
  unfold f_X6_dearest at hf
  refine r_aload_n hC dX6_dearest_0 0 rfl ?_
  refine r_iconst (v := 0) hC dX6_dearest_1 rfl ?_
  refine pf_X6_60 hC hz (z_1 hZ 27 (by decide) rfl) rfl dX6_dearest_2 ?_
  refine r_bipush (v := (-9)) hC dX6_dearest_5 rfl ?_
  refine r_istore_n (L' := [(1, .int (-9)), (0, .ref (Z.1 27))]) hC dX6_dearest_7 (by decide) rfl ?_
  refine r_iconst (v := 0) hC dX6_dearest_8 rfl ?_
  refine r_istore_n (L' := [(2, .int 0), (1, .int (-9)), (0, .ref (Z.1 27))]) hC dX6_dearest_9 (by decide) rfl ?_
  refine r_iconst (v := 0) hC dX6_dearest_10 rfl ?_
  refine r_istore_n (L' := [(3, .int 0), (2, .int 0), (1, .int (-9)), (0, .ref (Z.1 27))]) hC dX6_dearest_11 (by decide) rfl ?_
  refine r_L [3, 2, 1, 0] rfl ?_
  exact lq3_ind (P := fun (u1 : Int32) (u2 : Int32) (u3 : Int32) (M : Mem) => V X G Z M 0 0 (QN X G (QcI G Z r M') 0 0) 12 [(0, .ref (Z.1 27)), (1, .int u1), (2, .int u2), (3, .int u3)] []) (fun kk hkk u1 u2 u3 M hf => w_X6_dearest_b12 hC hz hZ  kk hkk u1 u2 u3 M hf) _ _ _ _ _ hf
set_option maxRecDepth 20000 in
theorem c_X6_dearest {l : Launch} (hl : l.stackTraces = false) {G : GG} {Z : ZZ} (hz : ZOk G Z) (hZ : ZM Z)  (M : Mem)  (r : Int32) (M' : Mem) (hf : f_X6_dearest  M = some (r, M')) : CN (QcI G Z r M') l G Z yX6_dearest cX6_dearest 6 (some .int) 9 [.ref (Z.1 27)] M :=
  CN.of [(0, .ref (Z.1 27))] hl (by decide +kernel) (Nat.le_of_ble_eq_true rfl) rfl (fun _ hC => w_X6_dearest hC hz hZ  M  hf)
set_option maxRecDepth 20000 in
theorem w_X6_bestTransposition_b125 {X : XX} {G : GG} {Z : ZZ} {r : Int32} {M' : Mem} (hC : Cx X G RX6 cX6_bestTransposition (some .int) 9 0 0 7) (hz : ZOk G Z) (hZ : ZM Z) (v1 : Int32) (v3 : Int32) (v4 : Int32) (v5 : Int32) (v6 : Int32) (k40 : Int32 → Int32 → Int32 → Mem → Option (Int32 × Mem)) (k50 : Int32 → Int32 → Int32 → Mem → Option (Int32 × Mem)) (hk40 : ∀ (u2 : Int32) (u3 : Int32) (u4 : Int32) (M : Mem), k40 u2 u3 u4 M = some (r, M') → V X G Z M 0 0 (QN X G (QcI G Z r M') 0 0) 40 [(0, .ref (Z.1 27)), (1, .int v1), (2, .int u2), (3, .int u3), (4, .int u4)] []) (hk50 : ∀ (u2 : Int32) (u3 : Int32) (u5 : Int32) (M : Mem), k50 u2 u3 u5 M = some (r, M') → V X G Z M 0 0 (QN X G (QcI G Z r M') 0 0) 50 [(0, .ref (Z.1 27)), (1, .int v1), (2, .int u2), (3, .int u3), (4, .int v4), (5, .int u5)] []) (s0 : Int32) (M : Mem) (hf : f_X6_bestTransposition_b125 v1 v3 v4 v5 v6 k40 k50 s0 M = some (r, M')) : V X G Z M 0 0 (QN X G (QcI G Z r M') 0 0) 125 [(0, .ref (Z.1 27)), (1, .int v1), (3, .int v3), (4, .int v4), (5, .int v5), (6, .int v6)] [.int s0] := by
  unfold f_X6_bestTransposition_b125 at hf
  refine r_istore_n (L' := [(2, .int s0), (0, .ref (Z.1 27)), (1, .int v1), (3, .int v3), (4, .int v4), (5, .int v5), (6, .int v6)]) hC dX6_bestTransposition_125 (by decide) rfl ?_
  refine r_iload hC dX6_bestTransposition_126 6 rfl ?_
  refine r_iload_n hC dX6_bestTransposition_128 3 rfl ?_
  refine r_icmp_ge 137 hC dX6_bestTransposition_129 (by decide) (fun h => ?_) (fun h => ?_)
  · have hf := if_T hf h
    refine r_iload_n hC dX6_bestTransposition_137 3 rfl ?_
    refine r_istore_n (L' := [(3, .int v3), (2, .int s0), (0, .ref (Z.1 27)), (1, .int v1), (4, .int v4), (5, .int v5), (6, .int v6)]) hC dX6_bestTransposition_138 (by decide) rfl ?_
    refine r_iinc (v := v5 + (-2)) (L' := [(5, .int (v5 + (-2))), (3, .int v3), (2, .int s0), (0, .ref (Z.1 27)), (1, .int v1), (4, .int v4), (6, .int v6)]) hC dX6_bestTransposition_139 5 rfl rfl (by decide) rfl ?_
    refine r_goto 50 hC dX6_bestTransposition_142 (by decide) ?_
    refine r_L [3, 4, 2, 1, 5, 0] rfl ?_
    exact hk50 _ _ _ _ hf
  · have hf := if_F hf h
    refine r_iload hC dX6_bestTransposition_132 6 rfl ?_
    refine r_goto 138 hC dX6_bestTransposition_134 (by decide) ?_
    refine r_istore_n (L' := [(3, .int v6), (2, .int s0), (0, .ref (Z.1 27)), (1, .int v1), (4, .int v4), (5, .int v5), (6, .int v6)]) hC dX6_bestTransposition_138 (by decide) rfl ?_
    refine r_iinc (v := v5 + (-2)) (L' := [(5, .int (v5 + (-2))), (3, .int v6), (2, .int s0), (0, .ref (Z.1 27)), (1, .int v1), (4, .int v4), (6, .int v6)]) hC dX6_bestTransposition_139 5 rfl rfl (by decide) rfl ?_
    refine r_goto 50 hC dX6_bestTransposition_142 (by decide) ?_
    refine r_L [3, 4, 2, 1, 5, 0] rfl ?_
    exact hk50 _ _ _ _ hf
set_option maxRecDepth 20000 in
theorem w_X6_bestTransposition_b50 {X : XX} {G : GG} {Z : ZZ} {r : Int32} {M' : Mem} (hC : Cx X G RX6 cX6_bestTransposition (some .int) 9 0 0 7) (hz : ZOk G Z) (hZ : ZM Z) (v1 : Int32) (v4 : Int32) (k40 : Int32 → Int32 → Int32 → Mem → Option (Int32 × Mem)) (hk40 : ∀ (u2 : Int32) (u3 : Int32) (u4 : Int32) (M : Mem), k40 u2 u3 u4 M = some (r, M') → V X G Z M 0 0 (QN X G (QcI G Z r M') 0 0) 40 [(0, .ref (Z.1 27)), (1, .int v1), (2, .int u2), (3, .int u3), (4, .int u4)] []) (k50 : Int32 → Int32 → Int32 → Mem → Option (Int32 × Mem)) (hk50 : ∀ (u2 : Int32) (u3 : Int32) (u5 : Int32) (M : Mem), k50 u2 u3 u5 M = some (r, M') → V X G Z M 0 0 (QN X G (QcI G Z r M') 0 0) 50 [(0, .ref (Z.1 27)), (1, .int v1), (2, .int u2), (3, .int u3), (4, .int v4), (5, .int u5)] []) (v2 : Int32) (v3 : Int32) (v5 : Int32) (M : Mem) (hf : f_X6_bestTransposition_b50 v1 v4 k40 k50 v2 v3 v5 M = some (r, M')) : V X G Z M 0 0 (QN X G (QcI G Z r M') 0 0) 50 [(0, .ref (Z.1 27)), (1, .int v1), (2, .int v2), (3, .int v3), (4, .int v4), (5, .int v5)] [] := by
  unfold f_X6_bestTransposition_b50 at hf
  refine r_iload hC dX6_bestTransposition_50 5 rfl ?_
  refine r_iconst (v := (-1)) hC dX6_bestTransposition_52 rfl ?_
  refine r_icmp_lt 145 hC dX6_bestTransposition_53 (by decide) (fun h => ?_) (fun h => ?_)
  · have hf := if_T hf h
    refine r_iinc (v := v4 + 1) (L' := [(4, .int (v4 + 1)), (0, .ref (Z.1 27)), (1, .int v1), (2, .int v2), (3, .int v3), (5, .int v5)]) hC dX6_bestTransposition_145 4 rfl rfl (by decide) rfl ?_
    refine r_goto 40 hC dX6_bestTransposition_148 (by decide) ?_
    refine r_L [1, 2, 3, 4, 0] rfl ?_
    exact hk40 _ _ _ _ hf
  · have hf := if_F hf h
    refine r_aload_n hC dX6_bestTransposition_56 0 rfl ?_
    refine gf_X6_16 hC (z_1 hZ 27 (by decide) rfl) rfl dX6_bestTransposition_57 ?_
    refine r_iload_n hC dX6_bestTransposition_60 1 rfl ?_
    refine r_iload hC dX6_bestTransposition_61 5 rfl ?_
    refine r_iload hC dX6_bestTransposition_63 4 rfl ?_
    refine r_imul hC dX6_bestTransposition_65 ?_
    refine r_callSI [] (fun r M1 h => c_X6_canShift (cx_st hC) hz hZ 30 v1 (v5 * v4) _ ⟨by decide, rfl⟩ r M1 h) hf cs_X6_237 hC  rfl rfl (by decide) (by decide) (Nat.le_of_ble_eq_true rfl) (by decide) (by decide) dX6_bestTransposition_66 (fun x7 M8 hf => ?_)
    refine r_if_eq 139 hC dX6_bestTransposition_69 (by decide) (fun h => ?_) (fun h => ?_)
    · have hf := if_T hf h
      refine r_iinc (v := v5 + (-2)) (L' := [(5, .int (v5 + (-2))), (0, .ref (Z.1 27)), (1, .int v1), (2, .int v2), (3, .int v3), (4, .int v4)]) hC dX6_bestTransposition_139 5 rfl rfl (by decide) rfl ?_
      refine r_goto 50 hC dX6_bestTransposition_142 (by decide) ?_
      refine r_L [1, 2, 3, 4, 5, 0] rfl ?_
      exact hk50 _ _ _ _ hf
    · have hf := if_F hf h
      refine r_aload_n hC dX6_bestTransposition_72 0 rfl ?_
      refine gf_X6_16 hC (z_1 hZ 27 (by decide) rfl) rfl dX6_bestTransposition_73 ?_
      refine r_iconst (v := 0) hC dX6_bestTransposition_76 rfl ?_
      refine r_aload_n hC dX6_bestTransposition_77 0 rfl ?_
      refine gf_X6_22 hC (z_1 hZ 27 (by decide) rfl) rfl dX6_bestTransposition_78 ?_
      refine r_iconst (v := 0) hC dX6_bestTransposition_81 rfl ?_
      refine r_callSV [] (fun r M1 h => c_X6_copyPage (cx_st hC) hz hZ 30 0 32 0 _ ⟨by decide, rfl⟩ ⟨by decide, rfl⟩ r M1 h) hf cs_X6_192 hC  rfl rfl (by decide) (by decide) (Nat.le_of_ble_eq_true rfl) (by decide) (by decide) dX6_bestTransposition_82 (fun x9 M10 hf => ?_)
      refine r_aload_n hC dX6_bestTransposition_85 0 rfl ?_
      refine gf_X6_22 hC (z_1 hZ 27 (by decide) rfl) rfl dX6_bestTransposition_86 ?_
      refine r_iload_n hC dX6_bestTransposition_89 1 rfl ?_
      refine r_iload hC dX6_bestTransposition_90 5 rfl ?_
      refine r_iload hC dX6_bestTransposition_92 4 rfl ?_
      refine r_imul hC dX6_bestTransposition_94 ?_
      refine r_callSI [] (fun r M1 h => c_X6_shift (cx_st hC) hz hZ 32 v1 (v5 * v4) _ ⟨by decide, rfl⟩ r M1 h) hf cs_X6_240 hC  rfl rfl (by decide) (by decide) (Nat.le_of_ble_eq_true rfl) (by decide) (by decide) dX6_bestTransposition_95 (fun x11 M12 hf => ?_)
      refine r_pop hC dX6_bestTransposition_98 rfl ?_
      refine r_aload_n hC dX6_bestTransposition_99 0 rfl ?_
      refine r_aload_n hC dX6_bestTransposition_100 0 rfl ?_
      refine gf_X6_22 hC (z_1 hZ 27 (by decide) rfl) rfl dX6_bestTransposition_101 ?_
      refine r_iconst (v := 0) hC dX6_bestTransposition_104 rfl ?_
      refine r_callVI [] (fun r M1 h => c_X6_wholeOf (cx_st hC) hz hZ 32 0 _ ⟨by decide, rfl⟩ r M1 h) hf cs_X6_256 hC (z_1 hZ 27 (by decide) rfl) (q0 := (RX6, TX6, 19)) rfl rfl [.ref (Z.1 32), .int 0] rfl rfl rfl (by decide) (by decide) (Nat.le_of_ble_eq_true rfl) (by decide) (by decide) dX6_bestTransposition_105 (fun x13 M14 hf => ?_)
      refine r_istore (L' := [(6, .int x13), (0, .ref (Z.1 27)), (1, .int v1), (2, .int v2), (3, .int v3), (4, .int v4), (5, .int v5)]) hC dX6_bestTransposition_108 (by decide) rfl ?_
      refine r_iload hC dX6_bestTransposition_110 0 rfl ?_
      refine r_iload_n hC dX6_bestTransposition_112 4 rfl ?_
      refine r_icmp_ge 124 hC dX6_bestTransposition_113 (by decide) (fun h => ?_) (fun h => ?_)
      · have hf := if_T hf h
        refine r_iload_n hC dX6_bestTransposition_124 3 rfl ?_
        refine r_L [1, 2, 4, 5, 6, 0] rfl ?_
        exact w_X6_bestTransposition_b125 hC hz hZ v1 v3 v4 v5 x13 k40 k50 hk40 hk50 v2 _ hf
      · have hf := if_F hf h
        refine r_iload hC dX6_bestTransposition_116 6 rfl ?_
        refine r_iload hC dX6_bestTransposition_118 5 rfl ?_
        refine r_imul hC dX6_bestTransposition_120 ?_
        refine r_goto 125 hC dX6_bestTransposition_121 (by decide) ?_
        refine r_L [1, 2, 4, 5, 6, 0] rfl ?_
        exact w_X6_bestTransposition_b125 hC hz hZ v1 v3 v4 v5 x13 k40 k50 hk40 hk50 (v5 * v4) _ hf
set_option maxRecDepth 20000 in
theorem w_X6_bestTransposition_b40 {X : XX} {G : GG} {Z : ZZ} {r : Int32} {M' : Mem} (hC : Cx X G RX6 cX6_bestTransposition (some .int) 9 0 0 7) (hz : ZOk G Z) (hZ : ZM Z) (v1 : Int32) (k40 : Int32 → Int32 → Int32 → Mem → Option (Int32 × Mem)) (hk40 : ∀ (u2 : Int32) (u3 : Int32) (u4 : Int32) (M : Mem), k40 u2 u3 u4 M = some (r, M') → V X G Z M 0 0 (QN X G (QcI G Z r M') 0 0) 40 [(0, .ref (Z.1 27)), (1, .int v1), (2, .int u2), (3, .int u3), (4, .int u4)] []) (v2 : Int32) (v3 : Int32) (v4 : Int32) (M : Mem) (hf : f_X6_bestTransposition_b40 v1 k40 v2 v3 v4 M = some (r, M')) : V X G Z M 0 0 (QN X G (QcI G Z r M') 0 0) 40 [(0, .ref (Z.1 27)), (1, .int v1), (2, .int v2), (3, .int v3), (4, .int v4)] [] := by
  unfold f_X6_bestTransposition_b40 at hf
  refine r_iload hC dX6_bestTransposition_40 4 rfl ?_
  refine r_bipush (v := 60) hC dX6_bestTransposition_42 rfl ?_
  refine r_icmp_gt 151 hC dX6_bestTransposition_44 (by decide) (fun h => ?_) (fun h => ?_)
  · have hf := if_T hf h
    refine r_iload_n hC dX6_bestTransposition_151 2 rfl ?_
    exact r_iret hf hC (by decide) (by decide) dX6_bestTransposition_152
  · have hf := if_F hf h
    refine r_iconst (v := 1) hC dX6_bestTransposition_47 rfl ?_
    refine r_istore (L' := [(5, .int 1), (0, .ref (Z.1 27)), (1, .int v1), (2, .int v2), (3, .int v3), (4, .int v4)]) hC dX6_bestTransposition_48 (by decide) rfl ?_
    refine r_L [1, 2, 3, 4, 5, 0] rfl ?_
    exact lq3_ind (P := fun (u2 : Int32) (u3 : Int32) (u5 : Int32) (M : Mem) => V X G Z M 0 0 (QN X G (QcI G Z r M') 0 0) 50 [(0, .ref (Z.1 27)), (1, .int v1), (2, .int u2), (3, .int u3), (4, .int v4), (5, .int u5)] []) (fun kk hkk u2 u3 u5 M hf => w_X6_bestTransposition_b50 hC hz hZ v1 v4 k40 hk40 kk hkk u2 u3 u5 M hf) _ _ _ _ _ hf
set_option maxRecDepth 20000 in
theorem w_X6_bestTransposition_b17 {X : XX} {G : GG} {Z : ZZ} {r : Int32} {M' : Mem} (hC : Cx X G RX6 cX6_bestTransposition (some .int) 9 0 0 7) (hz : ZOk G Z) (hZ : ZM Z) (v1 : Int32) (s0 : Int32) (M : Mem) (hf : f_X6_bestTransposition_b17 v1 s0 M = some (r, M')) : V X G Z M 0 0 (QN X G (QcI G Z r M') 0 0) 17 [(0, .ref (Z.1 27)), (1, .int v1)] [.int s0, .ref (Z.1 27)] := by
  unfold f_X6_bestTransposition_b17 at hf
  refine r_callVI [] (fun r M1 h => c_X6_refused (cx_st hC) hz hZ s0 _  r M1 h) hf cs_X6_169 hC (z_1 hZ 27 (by decide) rfl) (q0 := (RX6, TX6, 19)) rfl rfl [.int s0] rfl rfl rfl (by decide) (by decide) (Nat.le_of_ble_eq_true rfl) (by decide) (by decide) dX6_bestTransposition_17 (fun x3 M4 hf => ?_)
  refine r_if_eq 25 hC dX6_bestTransposition_20 (by decide) (fun h => ?_) (fun h => ?_)
  · have hf := if_T hf h
    refine r_iconst (v := 0) hC dX6_bestTransposition_25 rfl ?_
    refine r_istore_n (L' := [(2, .int 0), (0, .ref (Z.1 27)), (1, .int v1)]) hC dX6_bestTransposition_26 (by decide) rfl ?_
    refine r_aload_n hC dX6_bestTransposition_27 1 rfl ?_
    refine r_aload_n hC dX6_bestTransposition_28 1 rfl ?_
    refine gf_X6_16 hC (z_1 hZ 27 (by decide) rfl) rfl dX6_bestTransposition_29 ?_
    refine r_iconst (v := 0) hC dX6_bestTransposition_32 rfl ?_
    refine r_callVI [] (fun r M1 h => c_X6_wholeOf (cx_st hC) hz hZ 30 0 _ ⟨by decide, rfl⟩ r M1 h) hf cs_X6_256 hC (z_1 hZ 27 (by decide) rfl) (q0 := (RX6, TX6, 19)) rfl rfl [.ref (Z.1 30), .int 0] rfl rfl rfl (by decide) (by decide) (Nat.le_of_ble_eq_true rfl) (by decide) (by decide) dX6_bestTransposition_33 (fun x5 M6 hf => ?_)
    refine r_istore_n (L' := [(3, .int x5), (2, .int 0), (0, .ref (Z.1 27)), (1, .int v1)]) hC dX6_bestTransposition_36 (by decide) rfl ?_
    refine r_iconst (v := 1) hC dX6_bestTransposition_37 rfl ?_
    refine r_istore (L' := [(4, .int 1), (3, .int x5), (2, .int 0), (0, .ref (Z.1 27)), (1, .int v1)]) hC dX6_bestTransposition_38 (by decide) rfl ?_
    refine r_L [3, 4, 2, 1, 0] rfl ?_
    exact lq3_ind (P := fun (u2 : Int32) (u3 : Int32) (u4 : Int32) (M : Mem) => V X G Z M 0 0 (QN X G (QcI G Z r M') 0 0) 40 [(0, .ref (Z.1 27)), (1, .int v1), (2, .int u2), (3, .int u3), (4, .int u4)] []) (fun kk hkk u2 u3 u4 M hf => w_X6_bestTransposition_b40 hC hz hZ v1 kk hkk u2 u3 u4 M hf) _ _ _ _ _ hf
  · have hf := if_F hf h
    refine r_iconst (v := 0) hC dX6_bestTransposition_23 rfl ?_
    exact r_iret hf hC (by decide) (by decide) dX6_bestTransposition_24
set_option maxRecDepth 20000 in
theorem w_X6_bestTransposition {X : XX} {G : GG} {Z : ZZ} (hC : Cx X G RX6 cX6_bestTransposition (some .int) 9 0 0 7) (hz : ZOk G Z) (hZ : ZM Z) (v1 : Int32) (M : Mem)  {r : Int32} {M' : Mem} (hf : f_X6_bestTransposition v1 M = some (r, M')) : V X G Z M 0 0 (QN X G (QcI G Z r M') 0 0) 0 [(0, .ref (Z.1 27)), (1, .int v1)] [] := by
  unfold f_X6_bestTransposition at hf
  refine r_aload_n hC dX6_bestTransposition_0 0 rfl ?_
  refine r_aload_n hC dX6_bestTransposition_1 0 rfl ?_
  refine gf_X6_16 hC (z_1 hZ 27 (by decide) rfl) rfl dX6_bestTransposition_2 ?_
  refine r_iload_n hC dX6_bestTransposition_5 1 rfl ?_
  refine r_callSI [.ref (Z.1 27)] (fun r M1 h => c_X6_isStaff (cx_st hC) hz hZ 30 v1 _ ⟨by decide, rfl⟩ r M1 h) hf cs_X6_207 hC  rfl rfl (by decide) (by decide) (Nat.le_of_ble_eq_true rfl) (by decide) (by decide) dX6_bestTransposition_6 (fun x1 M2 hf => ?_)
  refine r_if_eq 16 hC dX6_bestTransposition_9 (by decide) (fun h => ?_) (fun h => ?_)
  · have hf := if_T hf h
    refine r_iconst (v := 1) hC dX6_bestTransposition_16 rfl ?_
    exact w_X6_bestTransposition_b17 hC hz hZ v1 1 _ hf
  · have hf := if_F hf h
    refine r_iconst (v := 0) hC dX6_bestTransposition_12 rfl ?_
    refine r_goto 17 hC dX6_bestTransposition_13 (by decide) ?_
    exact w_X6_bestTransposition_b17 hC hz hZ v1 0 _ hf
set_option maxRecDepth 20000 in
theorem c_X6_bestTransposition {l : Launch} (hl : l.stackTraces = false) {G : GG} {Z : ZZ} (hz : ZOk G Z) (hZ : ZM Z) (v1 : Int32) (M : Mem)  (r : Int32) (M' : Mem) (hf : f_X6_bestTransposition v1 M = some (r, M')) : CN (QcI G Z r M') l G Z yX6_bestTransposition cX6_bestTransposition 7 (some .int) 9 [.ref (Z.1 27), .int v1] M :=
  CN.of [(0, .ref (Z.1 27)), (1, .int v1)] hl (by decide +kernel) (Nat.le_of_ble_eq_true rfl) rfl (fun _ hC => w_X6_bestTransposition hC hz hZ v1 M  hf)
set_option maxRecDepth 20000 in
theorem w_X6_writes {X : XX} {G : GG} {Z : ZZ} (hC : Cx X G RX6 cX6_writes (some .boolean) 3 0 0 4) (hz : ZOk G Z) (hZ : ZM Z) (v1 : Int32) (v2 : Int32) (v3 : Int32) (M : Mem)  {r : Int32} {M' : Mem} (hf : f_X6_writes v1 v2 v3 M = some (r, M')) : V X G Z M 0 0 (QN X G (QcI G Z r M') 0 0) 0 [(0, .ref (Z.1 27)), (1, .int v1), (2, .int v2), (3, .int v3)] [] := by
  unfold f_X6_writes at hf
  refine r_aload_n hC dX6_writes_0 0 rfl ?_
  refine gf_X6_19 hC (z_1 hZ 27 (by decide) rfl) rfl dX6_writes_1 ?_
  refine r_iload_n hC dX6_writes_4 1 rfl ?_
  refine r_iload_n hC dX6_writes_5 2 rfl ?_
  refine r_callSI [] (fun r M1 h => c_X6_isCell (cx_st hC) hz hZ 31 v1 v2 _ ⟨by decide, rfl⟩ r M1 h) hf cs_X6_214 hC  rfl rfl (by decide) (by decide) (Nat.le_of_ble_eq_true rfl) (by decide) (by decide) dX6_writes_6 (fun x1 M2 hf => ?_)
  refine r_if_eq 25 hC dX6_writes_9 (by decide) (fun h => ?_) (fun h => ?_)
  · have hf := if_T hf h
    refine r_iconst (v := 0) hC dX6_writes_25 rfl ?_
    exact r_zret hf hC rfl rfl (by decide) (by decide) dX6_writes_26
  · have hf := if_F hf h
    refine r_aload_n hC dX6_writes_12 0 rfl ?_
    refine gf_X6_19 hC (z_1 hZ 27 (by decide) rfl) rfl dX6_writes_13 ?_
    refine r_iload_n hC dX6_writes_16 1 rfl ?_
    refine r_iload_n hC dX6_writes_17 2 rfl ?_
    refine r_iload_n hC dX6_writes_18 3 rfl ?_
    refine r_callSI [] (fun r M1 h => c_X6_canWrite (cx_st hC) hz hZ 31 v1 v2 v3 _ ⟨by decide, rfl⟩ r M1 h) hf cs_X6_228 hC  rfl rfl (by decide) (by decide) (Nat.le_of_ble_eq_true rfl) (by decide) (by decide) dX6_writes_19 (fun x3 M4 hf => ?_)
    refine r_if_ne 27 hC dX6_writes_22 (by decide) (fun h => ?_) (fun h => ?_)
    · have hf := if_F hf h
      refine r_aload_n hC dX6_writes_27 0 rfl ?_
      refine gf_X6_19 hC (z_1 hZ 27 (by decide) rfl) rfl dX6_writes_28 ?_
      refine r_iload_n hC dX6_writes_31 1 rfl ?_
      refine r_iload_n hC dX6_writes_32 2 rfl ?_
      refine r_iload_n hC dX6_writes_33 3 rfl ?_
      refine r_callSV [] (fun r M1 h => c_X6_put (cx_st hC) hz hZ 31 v1 v2 v3 _ ⟨by decide, rfl⟩ r M1 h) hf cs_X6_231 hC  rfl rfl (by decide) (by decide) (Nat.le_of_ble_eq_true rfl) (by decide) (by decide) dX6_writes_34 (fun x5 M6 hf => ?_)
      refine r_iconst (v := 1) hC dX6_writes_37 rfl ?_
      exact r_zret hf hC rfl rfl (by decide) (by decide) dX6_writes_38
    · have hf := if_T hf h
      refine r_iconst (v := 0) hC dX6_writes_25 rfl ?_
      exact r_zret hf hC rfl rfl (by decide) (by decide) dX6_writes_26
set_option maxRecDepth 20000 in
theorem c_X6_writes {l : Launch} (hl : l.stackTraces = false) {G : GG} {Z : ZZ} (hz : ZOk G Z) (hZ : ZM Z) (v1 : Int32) (v2 : Int32) (v3 : Int32) (M : Mem)  (r : Int32) (M' : Mem) (hf : f_X6_writes v1 v2 v3 M = some (r, M')) : CN (QcI G Z r M') l G Z yX6_writes cX6_writes 4 (some .boolean) 3 [.ref (Z.1 27), .int v1, .int v2, .int v3] M :=
  CN.of [(0, .ref (Z.1 27)), (1, .int v1), (2, .int v2), (3, .int v3)] hl (by decide +kernel) (Nat.le_of_ble_eq_true rfl) rfl (fun _ hC => w_X6_writes hC hz hZ v1 v2 v3 M  hf)
set_option maxRecDepth 20000 in
theorem w_X6_does {X : XX} {G : GG} {Z : ZZ} (hC : Cx X G RX6 cX6_does (some .boolean) 9 0 0 5) (hz : ZOk G Z) (hZ : ZM Z) (v1 : Int32) (v2 : Int32) (v3 : Int32) (v4 : Int32) (M : Mem)  {r : Int32} {M' : Mem} (hf : f_X6_does v1 v2 v3 v4 M = some (r, M')) : V X G Z M 0 0 (QN X G (QcI G Z r M') 0 0) 0 [(0, .ref (Z.1 27)), (1, .int v1), (2, .int v2), (3, .int v3), (4, .int v4)] [] := by
  unfold f_X6_does at hf
  refine r_iload_n hC dX6_does_0 1 rfl ?_
  by_cases e1 : v1 = 1
  · have hf := if_T hf e1
    refine r_swIn (c := 1) (tgt := 52) hC dX6_does_1 e1 (by decide) (by decide) rfl (by decide) ?_
    refine r_iload_n hC dX6_does_52 3 rfl ?_
    refine r_if_ne 65 hC dX6_does_53 (by decide) (fun h => ?_) (fun h => ?_)
    · have hf := if_F hf h
      refine r_iconst (v := 0) hC dX6_does_65 rfl ?_
      exact r_zret hf hC rfl rfl (by decide) (by decide) dX6_does_66
    · have hf := if_T hf h
      refine r_iload_n hC dX6_does_56 2 rfl ?_
      refine r_iload hC dX6_does_57 4 rfl ?_
      refine r_callSI [] (fun r M1 h => c_X6_isSetting (cx_st hC) hz hZ v2 v4 _  r M1 h) hf cs_X6_217 hC  rfl rfl (by decide) (by decide) (Nat.le_of_ble_eq_true rfl) (by decide) (by decide) dX6_does_59 (fun x1 M2 hf => ?_)
      refine r_if_ne 67 hC dX6_does_62 (by decide) (fun h => ?_) (fun h => ?_)
      · have hf := if_F hf h
        refine r_aload_n hC dX6_does_67 0 rfl ?_
        refine gf_X6_19 hC (z_1 hZ 27 (by decide) rfl) rfl dX6_does_68 ?_
        refine r_iload_n hC dX6_does_71 2 rfl ?_
        refine r_iload hC dX6_does_72 4 rfl ?_
        have hin := if_K hf
        have hf := if_V hf
        refine r_iast hC hz (z_1 hZ 31 (by decide) rfl) (inb_vp hin) dX6_does_74 ?_
        refine r_iconst (v := 1) hC dX6_does_75 rfl ?_
        exact r_zret hf hC rfl rfl (by decide) (by decide) dX6_does_76
      · have hf := if_T hf h
        refine r_iconst (v := 0) hC dX6_does_65 rfl ?_
        exact r_zret hf hC rfl rfl (by decide) (by decide) dX6_does_66
  have hf := if_F hf e1
  by_cases e2 : v1 = 2
  · have hf := if_T hf e2
    refine r_swIn (c := 2) (tgt := 77) hC dX6_does_1 e2 (by decide) (by decide) rfl (by decide) ?_
    refine r_iload hC dX6_does_77 4 rfl ?_
    refine r_bipush (v := 60) hC dX6_does_79 rfl ?_
    refine r_icmp_gt 99 hC dX6_does_81 (by decide) (fun h => ?_) (fun h => ?_)
    · have hf := if_T hf h
      refine r_iconst (v := 0) hC dX6_does_99 rfl ?_
      exact r_zret hf hC rfl rfl (by decide) (by decide) dX6_does_100
    · have hf := if_F hf h
      refine r_aload_n hC dX6_does_84 0 rfl ?_
      refine r_iload_n hC dX6_does_85 2 rfl ?_
      refine r_iload_n hC dX6_does_86 3 rfl ?_
      refine r_iload hC dX6_does_87 4 rfl ?_
      refine r_callVI [] (fun r M1 h => c_X6_writes (cx_st hC) hz hZ v2 v3 v4 _  r M1 h) hf cs_X6_259 hC (z_1 hZ 27 (by decide) rfl) (q0 := (RX6, TX6, 19)) rfl rfl [.int v2, .int v3, .int v4] rfl rfl rfl (by decide) (by decide) (Nat.le_of_ble_eq_true rfl) (by decide) (by decide) dX6_does_89 (fun x3 M4 hf => ?_)
      refine r_if_eq 99 hC dX6_does_92 (by decide) (fun h => ?_) (fun h => ?_)
      · have hf := if_T hf h
        refine r_iconst (v := 0) hC dX6_does_99 rfl ?_
        exact r_zret hf hC rfl rfl (by decide) (by decide) dX6_does_100
      · have hf := if_F hf h
        refine r_iconst (v := 1) hC dX6_does_95 rfl ?_
        refine r_goto 100 hC dX6_does_96 (by decide) ?_
        exact r_zret hf hC rfl rfl (by decide) (by decide) dX6_does_100
  have hf := if_F hf e2
  by_cases e3 : v1 = 3
  · have hf := if_T hf e3
    refine r_swIn (c := 3) (tgt := 101) hC dX6_does_1 e3 (by decide) (by decide) rfl (by decide) ?_
    refine r_iload hC dX6_does_101 4 rfl ?_
    refine r_if_ne 120 hC dX6_does_103 (by decide) (fun h => ?_) (fun h => ?_)
    · have hf := if_F hf h
      refine r_iconst (v := 0) hC dX6_does_120 rfl ?_
      exact r_zret hf hC rfl rfl (by decide) (by decide) dX6_does_121
    · have hf := if_T hf h
      refine r_aload_n hC dX6_does_106 0 rfl ?_
      refine r_iload_n hC dX6_does_107 2 rfl ?_
      refine r_iload_n hC dX6_does_108 3 rfl ?_
      refine r_iconst (v := (-1)) hC dX6_does_109 rfl ?_
      refine r_callVI [] (fun r M1 h => c_X6_writes (cx_st hC) hz hZ v2 v3 (-1) _  r M1 h) hf cs_X6_259 hC (z_1 hZ 27 (by decide) rfl) (q0 := (RX6, TX6, 19)) rfl rfl [.int v2, .int v3, .int (-1)] rfl rfl rfl (by decide) (by decide) (Nat.le_of_ble_eq_true rfl) (by decide) (by decide) dX6_does_110 (fun x5 M6 hf => ?_)
      refine r_if_eq 120 hC dX6_does_113 (by decide) (fun h => ?_) (fun h => ?_)
      · have hf := if_T hf h
        refine r_iconst (v := 0) hC dX6_does_120 rfl ?_
        exact r_zret hf hC rfl rfl (by decide) (by decide) dX6_does_121
      · have hf := if_F hf h
        refine r_iconst (v := 1) hC dX6_does_116 rfl ?_
        refine r_goto 121 hC dX6_does_117 (by decide) ?_
        exact r_zret hf hC rfl rfl (by decide) (by decide) dX6_does_121
  have hf := if_F hf e3
  by_cases e4 : v1 = 4
  · have hf := if_T hf e4
    refine r_swIn (c := 4) (tgt := 122) hC dX6_does_1 e4 (by decide) (by decide) rfl (by decide) ?_
    refine r_iload hC dX6_does_122 4 rfl ?_
    refine r_if_ne 142 hC dX6_does_124 (by decide) (fun h => ?_) (fun h => ?_)
    · have hf := if_F hf h
      refine r_iconst (v := 0) hC dX6_does_142 rfl ?_
      exact r_zret hf hC rfl rfl (by decide) (by decide) dX6_does_143
    · have hf := if_T hf h
      refine r_aload_n hC dX6_does_127 0 rfl ?_
      refine r_iload_n hC dX6_does_128 2 rfl ?_
      refine r_iload_n hC dX6_does_129 3 rfl ?_
      refine r_bipush (v := 99) hC dX6_does_130 rfl ?_
      refine r_callVI [] (fun r M1 h => c_X6_writes (cx_st hC) hz hZ v2 v3 99 _  r M1 h) hf cs_X6_259 hC (z_1 hZ 27 (by decide) rfl) (q0 := (RX6, TX6, 19)) rfl rfl [.int v2, .int v3, .int 99] rfl rfl rfl (by decide) (by decide) (Nat.le_of_ble_eq_true rfl) (by decide) (by decide) dX6_does_132 (fun x7 M8 hf => ?_)
      refine r_if_eq 142 hC dX6_does_135 (by decide) (fun h => ?_) (fun h => ?_)
      · have hf := if_T hf h
        refine r_iconst (v := 0) hC dX6_does_142 rfl ?_
        exact r_zret hf hC rfl rfl (by decide) (by decide) dX6_does_143
      · have hf := if_F hf h
        refine r_iconst (v := 1) hC dX6_does_138 rfl ?_
        refine r_goto 143 hC dX6_does_139 (by decide) ?_
        exact r_zret hf hC rfl rfl (by decide) (by decide) dX6_does_143
  have hf := if_F hf e4
  by_cases e5 : v1 = 5
  · have hf := if_T hf e5
    refine r_swIn (c := 5) (tgt := 144) hC dX6_does_1 e5 (by decide) (by decide) rfl (by decide) ?_
    refine r_iload_n hC dX6_does_144 2 rfl ?_
    refine r_if_ne 182 hC dX6_does_145 (by decide) (fun h => ?_) (fun h => ?_)
    · have hf := if_F hf h
      refine r_iconst (v := 0) hC dX6_does_182 rfl ?_
      exact r_zret hf hC rfl rfl (by decide) (by decide) dX6_does_183
    · have hf := if_T hf h
      refine r_iload hC dX6_does_148 4 rfl ?_
      refine r_bipush (v := 10) hC dX6_does_150 rfl ?_
      refine r_irem hC dX6_does_152 (by decide) ?_
      refine r_if_ne 182 hC dX6_does_153 (by decide) (fun h => ?_) (fun h => ?_)
      · have hf := if_F hf h
        refine r_iconst (v := 0) hC dX6_does_182 rfl ?_
        exact r_zret hf hC rfl rfl (by decide) (by decide) dX6_does_183
      · have hf := if_T hf h
        refine r_aload_n hC dX6_does_156 0 rfl ?_
        refine gf_X6_19 hC (z_1 hZ 27 (by decide) rfl) rfl dX6_does_157 ?_
        refine r_iload_n hC dX6_does_160 3 rfl ?_
        refine r_callSI [] (fun r M1 h => c_X6_isStaff (cx_st hC) hz hZ 31 v3 _ ⟨by decide, rfl⟩ r M1 h) hf cs_X6_207 hC  rfl rfl (by decide) (by decide) (Nat.le_of_ble_eq_true rfl) (by decide) (by decide) dX6_does_161 (fun x9 M10 hf => ?_)
        refine r_if_eq 182 hC dX6_does_164 (by decide) (fun h => ?_) (fun h => ?_)
        · have hf := if_T hf h
          refine r_iconst (v := 0) hC dX6_does_182 rfl ?_
          exact r_zret hf hC rfl rfl (by decide) (by decide) dX6_does_183
        · have hf := if_F hf h
          refine r_aload_n hC dX6_does_167 0 rfl ?_
          refine gf_X6_19 hC (z_1 hZ 27 (by decide) rfl) rfl dX6_does_168 ?_
          refine r_iload hC dX6_does_171 4 rfl ?_
          refine r_bipush (v := 10) hC dX6_does_173 rfl ?_
          refine r_idiv hC dX6_does_175 (by decide) ?_
          refine r_callSI [] (fun r M1 h => c_X6_isStaff (cx_st hC) hz hZ 31 (v4 / 10) _ ⟨by decide, rfl⟩ r M1 h) hf cs_X6_207 hC  rfl rfl (by decide) (by decide) (Nat.le_of_ble_eq_true rfl) (by decide) (by decide) dX6_does_176 (fun x11 M12 hf => ?_)
          refine r_if_ne 184 hC dX6_does_179 (by decide) (fun h => ?_) (fun h => ?_)
          · have hf := if_F hf h
            refine r_aload_n hC dX6_does_184 0 rfl ?_
            refine gf_X6_19 hC (z_1 hZ 27 (by decide) rfl) rfl dX6_does_185 ?_
            refine r_iload_n hC dX6_does_188 3 rfl ?_
            refine r_iload hC dX6_does_189 4 rfl ?_
            refine r_bipush (v := 10) hC dX6_does_191 rfl ?_
            refine r_idiv hC dX6_does_193 (by decide) ?_
            refine r_callSI [] (fun r M1 h => c_X6_swap (cx_st hC) hz hZ 31 v3 (v4 / 10) _ ⟨by decide, rfl⟩ r M1 h) hf cs_X6_244 hC  rfl rfl (by decide) (by decide) (Nat.le_of_ble_eq_true rfl) (by decide) (by decide) dX6_does_194 (fun x13 M14 hf => ?_)
            refine r_pop hC dX6_does_197 rfl ?_
            refine r_iconst (v := 1) hC dX6_does_198 rfl ?_
            exact r_zret hf hC rfl rfl (by decide) (by decide) dX6_does_199
          · have hf := if_T hf h
            refine r_iconst (v := 0) hC dX6_does_182 rfl ?_
            exact r_zret hf hC rfl rfl (by decide) (by decide) dX6_does_183
  have hf := if_F hf e5
  by_cases e6 : v1 = 6
  · have hf := if_T hf e6
    refine r_swIn (c := 6) (tgt := 200) hC dX6_does_1 e6 (by decide) (by decide) rfl (by decide) ?_
    refine r_iload hC dX6_does_200 4 rfl ?_
    refine r_if_ne 232 hC dX6_does_202 (by decide) (fun h => ?_) (fun h => ?_)
    · have hf := if_F hf h
      refine r_iconst (v := 0) hC dX6_does_232 rfl ?_
      exact r_zret hf hC rfl rfl (by decide) (by decide) dX6_does_233
    · have hf := if_T hf h
      refine r_aload_n hC dX6_does_205 0 rfl ?_
      refine gf_X6_19 hC (z_1 hZ 27 (by decide) rfl) rfl dX6_does_206 ?_
      refine r_bipush (v := 10) hC dX6_does_209 rfl ?_
      refine r_iload_n hC dX6_does_211 2 rfl ?_
      refine r_imul hC dX6_does_212 ?_
      refine r_iload_n hC dX6_does_213 3 rfl ?_
      refine r_iadd hC dX6_does_214 ?_
      refine r_callSI [] (fun r M1 h => c_X6_isBeat (cx_st hC) hz hZ 31 ((10 * v2) + v3) _ ⟨by decide, rfl⟩ r M1 h) hf cs_X6_211 hC  rfl rfl (by decide) (by decide) (Nat.le_of_ble_eq_true rfl) (by decide) (by decide) dX6_does_215 (fun x15 M16 hf => ?_)
      refine r_if_eq 232 hC dX6_does_218 (by decide) (fun h => ?_) (fun h => ?_)
      · have hf := if_T hf h
        refine r_iconst (v := 0) hC dX6_does_232 rfl ?_
        exact r_zret hf hC rfl rfl (by decide) (by decide) dX6_does_233
      · have hf := if_F hf h
        refine r_aload_n hC dX6_does_221 0 rfl ?_
        refine gf_X6_19 hC (z_1 hZ 27 (by decide) rfl) rfl dX6_does_222 ?_
        refine r_bipush (v := 7) hC dX6_does_225 rfl ?_
        have hin := if_K hf
        have hf := if_V hf
        refine r_iald hC (z_1 hZ 31 (by decide) rfl) (inb_vp hin) dX6_does_227 ?_
        refine r_iconst (v := 1) hC dX6_does_228 rfl ?_
        refine r_icmp_ne 234 hC dX6_does_229 (by decide) (fun h => ?_) (fun h => ?_)
        · have hf := if_F hf h
          refine r_aload_n hC dX6_does_234 0 rfl ?_
          refine gf_X6_19 hC (z_1 hZ 27 (by decide) rfl) rfl dX6_does_235 ?_
          refine r_bipush (v := 10) hC dX6_does_238 rfl ?_
          refine r_iload_n hC dX6_does_240 2 rfl ?_
          refine r_imul hC dX6_does_241 ?_
          refine r_iload_n hC dX6_does_242 3 rfl ?_
          refine r_iadd hC dX6_does_243 ?_
          refine r_callSV [] (fun r M1 h => c_X6_dropBeat (cx_st hC) hz hZ 31 ((10 * v2) + v3) _ ⟨by decide, rfl⟩ r M1 h) hf cs_X6_247 hC  rfl rfl (by decide) (by decide) (Nat.le_of_ble_eq_true rfl) (by decide) (by decide) dX6_does_244 (fun x17 M18 hf => ?_)
          refine r_iconst (v := 1) hC dX6_does_247 rfl ?_
          exact r_zret hf hC rfl rfl (by decide) (by decide) dX6_does_248
        · have hf := if_T hf h
          refine r_iconst (v := 0) hC dX6_does_232 rfl ?_
          exact r_zret hf hC rfl rfl (by decide) (by decide) dX6_does_233
  have hf := if_F hf e6
  by_cases e7 : v1 = 7
  · have hf := if_T hf e7
    refine r_swIn (c := 7) (tgt := 249) hC dX6_does_1 e7 (by decide) (by decide) rfl (by decide) ?_
    refine r_iload_n hC dX6_does_249 2 rfl ?_
    refine r_bipush (v := 8) hC dX6_does_250 rfl ?_
    refine r_icmp_ge 278 hC dX6_does_252 (by decide) (fun h => ?_) (fun h => ?_)
    · have hf := if_T hf h
      refine r_iconst (v := 0) hC dX6_does_278 rfl ?_
      exact r_zret hf hC rfl rfl (by decide) (by decide) dX6_does_279
    · have hf := if_F hf h
      refine r_aload_n hC dX6_does_255 0 rfl ?_
      refine r_aload_n hC dX6_does_256 0 rfl ?_
      refine gf_X6_19 hC (z_1 hZ 27 (by decide) rfl) rfl dX6_does_257 ?_
      refine r_iload_n hC dX6_does_260 2 rfl ?_
      refine r_callVI [] (fun r M1 h => c_X6_wholeOf (cx_st hC) hz hZ 31 v2 _ ⟨by decide, rfl⟩ r M1 h) hf cs_X6_256 hC (z_1 hZ 27 (by decide) rfl) (q0 := (RX6, TX6, 19)) rfl rfl [.ref (Z.1 31), .int v2] rfl rfl rfl (by decide) (by decide) (Nat.le_of_ble_eq_true rfl) (by decide) (by decide) dX6_does_261 (fun x19 M20 hf => ?_)
      refine r_bipush (v := 100) hC dX6_does_264 rfl ?_
      refine r_iload_n hC dX6_does_266 3 rfl ?_
      refine r_imul hC dX6_does_267 ?_
      refine r_iload hC dX6_does_268 4 rfl ?_
      refine r_iadd hC dX6_does_270 ?_
      refine r_icmp_ne 278 hC dX6_does_271 (by decide) (fun h => ?_) (fun h => ?_)
      · have hf := if_F hf h
        refine r_iconst (v := 0) hC dX6_does_278 rfl ?_
        exact r_zret hf hC rfl rfl (by decide) (by decide) dX6_does_279
      · have hf := if_T hf h
        refine r_iconst (v := 1) hC dX6_does_274 rfl ?_
        refine r_goto 279 hC dX6_does_275 (by decide) ?_
        exact r_zret hf hC rfl rfl (by decide) (by decide) dX6_does_279
  have hf := if_F hf e7
  by_cases e8 : v1 = 8
  · have hf := if_T hf e8
    refine r_swIn (c := 8) (tgt := 280) hC dX6_does_1 e8 (by decide) (by decide) rfl (by decide) ?_
    refine r_aload_n hC dX6_does_280 0 rfl ?_
    refine r_aload_n hC dX6_does_281 0 rfl ?_
    refine gf_X6_19 hC (z_1 hZ 27 (by decide) rfl) rfl dX6_does_282 ?_
    refine r_callVV [] (fun r M1 h => c_X6_lay (cx_st hC) hz hZ 31 _ ⟨by decide, rfl⟩ r M1 h) hf cs_X6_158 hC (z_1 hZ 27 (by decide) rfl) (q0 := (RX6, TX6, 19)) rfl rfl [.ref (Z.1 31)] rfl rfl rfl (by decide) (by decide) (Nat.le_of_ble_eq_true rfl) (by decide) (by decide) dX6_does_285 (fun x21 M22 hf => ?_)
    refine r_iload hC dX6_does_288 4 rfl ?_
    refine r_iconst (v := 2) hC dX6_does_290 rfl ?_
    refine r_icmp_ge 327 hC dX6_does_291 (by decide) (fun h => ?_) (fun h => ?_)
    · have hf := if_T hf h
      refine r_iconst (v := 0) hC dX6_does_327 rfl ?_
      exact r_zret hf hC rfl rfl (by decide) (by decide) dX6_does_328
    · have hf := if_F hf h
      refine r_aload_n hC dX6_does_294 0 rfl ?_
      refine gf_X6_19 hC (z_1 hZ 27 (by decide) rfl) rfl dX6_does_295 ?_
      refine r_iload_n hC dX6_does_298 2 rfl ?_
      refine r_iload_n hC dX6_does_299 3 rfl ?_
      refine r_callSI [] (fun r M1 h => c_X6_isCell (cx_st hC) hz hZ 31 v2 v3 _ ⟨by decide, rfl⟩ r M1 h) hf cs_X6_214 hC  rfl rfl (by decide) (by decide) (Nat.le_of_ble_eq_true rfl) (by decide) (by decide) dX6_does_300 (fun x23 M24 hf => ?_)
      refine r_if_eq 327 hC dX6_does_303 (by decide) (fun h => ?_) (fun h => ?_)
      · have hf := if_T hf h
        refine r_iconst (v := 0) hC dX6_does_327 rfl ?_
        exact r_zret hf hC rfl rfl (by decide) (by decide) dX6_does_328
      · have hf := if_F hf h
        refine r_aload_n hC dX6_does_306 0 rfl ?_
        refine r_iload_n hC dX6_does_307 2 rfl ?_
        refine r_iload_n hC dX6_does_308 3 rfl ?_
        refine r_aload_n hC dX6_does_309 0 rfl ?_
        refine gf_X6_50 hC (z_1 hZ 27 (by decide) rfl) rfl dX6_does_310 ?_
        refine r_iload_n hC dX6_does_313 3 rfl ?_
        have hin := if_K hf
        have hf := if_V hf
        refine r_iald hC (z_1 hZ 41 (by decide) rfl) (inb_vp hin) dX6_does_314 ?_
        refine r_callVI [] (fun r M1 h => c_X6_handOf (cx_st hC) hz hZ v2 v3 (M24 41 (Int32.toNatClampNeg v3)) _  r M1 h) hf cs_X6_100 hC (z_1 hZ 27 (by decide) rfl) (q0 := (RX6, TX6, 19)) rfl rfl [.int v2, .int v3, .int (M24 41 (Int32.toNatClampNeg v3))] rfl rfl rfl (by decide) (by decide) (Nat.le_of_ble_eq_true rfl) (by decide) (by decide) dX6_does_315 (fun x25 M26 hf => ?_)
        refine r_iload hC dX6_does_318 4 rfl ?_
        refine r_icmp_ne 327 hC dX6_does_320 (by decide) (fun h => ?_) (fun h => ?_)
        · have hf := if_F hf h
          refine r_iconst (v := 0) hC dX6_does_327 rfl ?_
          exact r_zret hf hC rfl rfl (by decide) (by decide) dX6_does_328
        · have hf := if_T hf h
          refine r_iconst (v := 1) hC dX6_does_323 rfl ?_
          refine r_goto 328 hC dX6_does_324 (by decide) ?_
          exact r_zret hf hC rfl rfl (by decide) (by decide) dX6_does_328
  have hf := if_F hf e8
  by_cases e9 : v1 = 9
  · have hf := if_T hf e9
    refine r_swIn (c := 9) (tgt := 329) hC dX6_does_1 e9 (by decide) (by decide) rfl (by decide) ?_
    refine r_aload_n hC dX6_does_329 0 rfl ?_
    refine r_aload_n hC dX6_does_330 0 rfl ?_
    refine gf_X6_19 hC (z_1 hZ 27 (by decide) rfl) rfl dX6_does_331 ?_
    refine r_callVV [] (fun r M1 h => c_X6_lay (cx_st hC) hz hZ 31 _ ⟨by decide, rfl⟩ r M1 h) hf cs_X6_158 hC (z_1 hZ 27 (by decide) rfl) (q0 := (RX6, TX6, 19)) rfl rfl [.ref (Z.1 31)] rfl rfl rfl (by decide) (by decide) (Nat.le_of_ble_eq_true rfl) (by decide) (by decide) dX6_does_334 (fun x27 M28 hf => ?_)
    refine r_iload hC dX6_does_337 4 rfl ?_
    refine r_bipush (v := 10) hC dX6_does_339 rfl ?_
    refine r_icmp_ge 390 hC dX6_does_341 (by decide) (fun h => ?_) (fun h => ?_)
    · have hf := if_T hf h
      refine r_iconst (v := 0) hC dX6_does_390 rfl ?_
      exact r_zret hf hC rfl rfl (by decide) (by decide) dX6_does_391
    · have hf := if_F hf h
      refine r_aload_n hC dX6_does_344 0 rfl ?_
      refine gf_X6_19 hC (z_1 hZ 27 (by decide) rfl) rfl dX6_does_345 ?_
      refine r_iload_n hC dX6_does_348 2 rfl ?_
      refine r_iload_n hC dX6_does_349 3 rfl ?_
      refine r_callSI [] (fun r M1 h => c_X6_isCell (cx_st hC) hz hZ 31 v2 v3 _ ⟨by decide, rfl⟩ r M1 h) hf cs_X6_214 hC  rfl rfl (by decide) (by decide) (Nat.le_of_ble_eq_true rfl) (by decide) (by decide) dX6_does_350 (fun x29 M30 hf => ?_)
      refine r_if_eq 390 hC dX6_does_353 (by decide) (fun h => ?_) (fun h => ?_)
      · have hf := if_T hf h
        refine r_iconst (v := 0) hC dX6_does_390 rfl ?_
        exact r_zret hf hC rfl rfl (by decide) (by decide) dX6_does_391
      · have hf := if_F hf h
        refine r_aload_n hC dX6_does_356 0 rfl ?_
        refine gf_X6_35 hC (z_1 hZ 27 (by decide) rfl) rfl dX6_does_357 ?_
        refine r_iload_n hC dX6_does_360 2 rfl ?_
        refine r_iload_n hC dX6_does_361 3 rfl ?_
        refine r_callSI [.ref (Z.1 36)] (fun r M1 h => c_X6_at (cx_st hC) hz hZ v2 v3 _  r M1 h) hf cs_X6_70 hC  rfl rfl (by decide) (by decide) (Nat.le_of_ble_eq_true rfl) (by decide) (by decide) dX6_does_362 (fun x31 M32 hf => ?_)
        have hin := if_K hf
        have hf := if_V hf
        refine r_iald hC (z_1 hZ 36 (by decide) rfl) (inb_vp hin) dX6_does_365 ?_
        refine r_bipush (v := (-9)) hC dX6_does_366 rfl ?_
        refine r_icmp_eq 390 hC dX6_does_368 (by decide) (fun h => ?_) (fun h => ?_)
        · have hf := if_T hf h
          refine r_iconst (v := 0) hC dX6_does_390 rfl ?_
          exact r_zret hf hC rfl rfl (by decide) (by decide) dX6_does_391
        · have hf := if_F hf h
          refine r_aload_n hC dX6_does_371 0 rfl ?_
          refine gf_X6_38 hC (z_1 hZ 27 (by decide) rfl) rfl dX6_does_372 ?_
          refine r_iload_n hC dX6_does_375 2 rfl ?_
          refine r_iload_n hC dX6_does_376 3 rfl ?_
          refine r_callSI [.ref (Z.1 37)] (fun r M1 h => c_X6_at (cx_st hC) hz hZ v2 v3 _  r M1 h) hf cs_X6_70 hC  rfl rfl (by decide) (by decide) (Nat.le_of_ble_eq_true rfl) (by decide) (by decide) dX6_does_377 (fun x33 M34 hf => ?_)
          have hin := if_K hf
          have hf := if_V hf
          refine r_iald hC (z_1 hZ 37 (by decide) rfl) (inb_vp hin) dX6_does_380 ?_
          refine r_iload hC dX6_does_381 4 rfl ?_
          refine r_icmp_ne 390 hC dX6_does_383 (by decide) (fun h => ?_) (fun h => ?_)
          · have hf := if_F hf h
            refine r_iconst (v := 0) hC dX6_does_390 rfl ?_
            exact r_zret hf hC rfl rfl (by decide) (by decide) dX6_does_391
          · have hf := if_T hf h
            refine r_iconst (v := 1) hC dX6_does_386 rfl ?_
            refine r_goto 391 hC dX6_does_387 (by decide) ?_
            exact r_zret hf hC rfl rfl (by decide) (by decide) dX6_does_391
  have hf := if_F hf e9
  refine r_swOut (tgt := 392) hC dX6_does_1 (sw_out 1 9 (by decide) (by decide) (fun c hc1 hc2 => ?_)) (by decide) ?_
  · have : c = 1 ∨ c = 2 ∨ c = 3 ∨ c = 4 ∨ c = 5 ∨ c = 6 ∨ c = 7 ∨ c = 8 ∨ c = 9 := by omega
    rcases this with rfl | rfl | rfl | rfl | rfl | rfl | rfl | rfl | rfl
    · exact e1
    · exact e2
    · exact e3
    · exact e4
    · exact e5
    · exact e6
    · exact e7
    · exact e8
    · exact e9
  refine r_iconst (v := 0) hC dX6_does_392 rfl ?_
  exact r_zret hf hC rfl rfl (by decide) (by decide) dX6_does_393
set_option maxRecDepth 20000 in
theorem c_X6_does {l : Launch} (hl : l.stackTraces = false) {G : GG} {Z : ZZ} (hz : ZOk G Z) (hZ : ZM Z) (v1 : Int32) (v2 : Int32) (v3 : Int32) (v4 : Int32) (M : Mem)  (r : Int32) (M' : Mem) (hf : f_X6_does v1 v2 v3 v4 M = some (r, M')) : CN (QcI G Z r M') l G Z yX6_does cX6_does 5 (some .boolean) 9 [.ref (Z.1 27), .int v1, .int v2, .int v3, .int v4] M :=
  CN.of [(0, .ref (Z.1 27)), (1, .int v1), (2, .int v2), (3, .int v3), (4, .int v4)] hl (by decide +kernel) (Nat.le_of_ble_eq_true rfl) rfl (fun _ hC => w_X6_does hC hz hZ v1 v2 v3 v4 M  hf)
set_option maxRecDepth 20000 in
theorem w_X6_runScript_b84 {X : XX} {G : GG} {Z : ZZ} {r : Int32} {M' : Mem} (hC : Cx X G RX6 cX6_runScript (some .int) 10 0 0 10) (hz : ZOk G Z) (hZ : ZM Z) (v1 : Int32) (k84 : Int64 → Int64 → Int32 → Mem → Option (Int32 × Mem)) (hk84 : ∀ (u4 : Int64) (u6 : Int64) (u8 : Int32) (M : Mem), k84 u4 u6 u8 M = some (r, M') → V X G Z M 0 0 (QN X G (QcI G Z r M') 0 0) 84 [(0, .ref (Z.1 27)), (1, .int v1), (4, .long u4), (6, .long u6), (8, .int u8)] []) (w4 : Int64) (w6 : Int64) (v8 : Int32) (M : Mem) (hf : f_X6_runScript_b84 v1 k84 w4 w6 v8 M = some (r, M')) : V X G Z M 0 0 (QN X G (QcI G Z r M') 0 0) 84 [(0, .ref (Z.1 27)), (1, .int v1), (4, .long w4), (6, .long w6), (8, .int v8)] [] := by
  unfold f_X6_runScript_b84 at hf
  refine r_iload hC dX6_runScript_84 4 rfl ?_
  refine r_iload_n hC dX6_runScript_86 1 rfl ?_
  refine r_icmp_ge 157 hC dX6_runScript_87 (by decide) (fun h => ?_) (fun h => ?_)
  · have hf := if_T hf h
    refine r_bipush (v := (-9)) hC dX6_runScript_157 rfl ?_
    exact r_iret hf hC (by decide) (by decide) dX6_runScript_159
  · have hf := if_F hf h
    refine r_lload hC dX6_runScript_90 2 rfl ?_
    refine r_ldc2 (v := 100000) hC dX6_runScript_92 kw_X6_263 ?_
    refine r_ldiv hC dX6_runScript_95 (by decide) ?_
    refine r_lstore (L' := [(4, .long (w4 / 100000)), (0, .ref (Z.1 27)), (1, .int v1), (6, .long w6), (8, .int v8)]) hC dX6_runScript_96 (by decide) rfl ?_
    refine r_lload hC dX6_runScript_98 3 rfl ?_
    refine r_lload hC dX6_runScript_100 0 rfl ?_
    have hne := if_K hf
    have hf := if_V hf
    refine r_ldiv hC dX6_runScript_102 hne ?_
    refine r_l2i hC dX6_runScript_103 ?_
    refine r_istore (L' := [(9, .int (Int64.toInt32 (w6 / (w4 / 100000)))), (4, .long (w4 / 100000)), (0, .ref (Z.1 27)), (1, .int v1), (6, .long w6), (8, .int v8)]) hC dX6_runScript_104 (by decide) rfl ?_
    refine r_lload hC dX6_runScript_106 4 rfl ?_
    refine r_lload hC dX6_runScript_108 1 rfl ?_
    have hne := if_K hf
    have hf := if_V hf
    refine r_lrem hC dX6_runScript_110 hne ?_
    refine r_lstore (L' := [(6, .long (w6 - w6 / (w4 / 100000) * (w4 / 100000))), (9, .int (Int64.toInt32 (w6 / (w4 / 100000)))), (4, .long (w4 / 100000)), (0, .ref (Z.1 27)), (1, .int v1), (8, .int v8)]) hC dX6_runScript_111 (by decide) rfl ?_
    refine r_aload_n hC dX6_runScript_113 3 rfl ?_
    refine r_iload hC dX6_runScript_114 1 rfl ?_
    refine r_sipush (v := 10000) hC dX6_runScript_116 rfl ?_
    refine r_idiv hC dX6_runScript_119 (by decide) ?_
    refine r_iload hC dX6_runScript_120 1 rfl ?_
    refine r_sipush (v := 1000) hC dX6_runScript_122 rfl ?_
    refine r_idiv hC dX6_runScript_125 (by decide) ?_
    refine r_bipush (v := 10) hC dX6_runScript_126 rfl ?_
    refine r_irem hC dX6_runScript_128 (by decide) ?_
    refine r_iload hC dX6_runScript_129 1 rfl ?_
    refine r_bipush (v := 100) hC dX6_runScript_131 rfl ?_
    refine r_idiv hC dX6_runScript_133 (by decide) ?_
    refine r_bipush (v := 10) hC dX6_runScript_134 rfl ?_
    refine r_irem hC dX6_runScript_136 (by decide) ?_
    refine r_iload hC dX6_runScript_137 1 rfl ?_
    refine r_bipush (v := 100) hC dX6_runScript_139 rfl ?_
    refine r_irem hC dX6_runScript_141 (by decide) ?_
    refine r_callVI [] (fun r M1 h => c_X6_does (cx_st hC) hz hZ ((Int64.toInt32 (w6 / (w4 / 100000))) / 10000) (((Int64.toInt32 (w6 / (w4 / 100000))) / 1000) - ((Int64.toInt32 (w6 / (w4 / 100000))) / 1000) / 10 * 10) (((Int64.toInt32 (w6 / (w4 / 100000))) / 100) - ((Int64.toInt32 (w6 / (w4 / 100000))) / 100) / 10 * 10) ((Int64.toInt32 (w6 / (w4 / 100000))) - (Int64.toInt32 (w6 / (w4 / 100000))) / 100 * 100) _  r M1 h) hf cs_X6_269 hC (z_1 hZ 27 (by decide) rfl) (q0 := (RX6, TX6, 19)) rfl rfl [.int ((Int64.toInt32 (w6 / (w4 / 100000))) / 10000), .int (((Int64.toInt32 (w6 / (w4 / 100000))) / 1000) - ((Int64.toInt32 (w6 / (w4 / 100000))) / 1000) / 10 * 10), .int (((Int64.toInt32 (w6 / (w4 / 100000))) / 100) - ((Int64.toInt32 (w6 / (w4 / 100000))) / 100) / 10 * 10), .int ((Int64.toInt32 (w6 / (w4 / 100000))) - (Int64.toInt32 (w6 / (w4 / 100000))) / 100 * 100)] rfl rfl rfl (by decide) (by decide) (Nat.le_of_ble_eq_true rfl) (by decide) (by decide) dX6_runScript_142 (fun x9 M10 hf => ?_)
    refine r_if_ne 151 hC dX6_runScript_145 (by decide) (fun h => ?_) (fun h => ?_)
    · have hf := if_F hf h
      refine r_iinc (v := v8 + 1) (L' := [(8, .int (v8 + 1)), (6, .long (w6 - w6 / (w4 / 100000) * (w4 / 100000))), (9, .int (Int64.toInt32 (w6 / (w4 / 100000)))), (4, .long (w4 / 100000)), (0, .ref (Z.1 27)), (1, .int v1)]) hC dX6_runScript_151 5 rfl rfl (by decide) rfl ?_
      refine r_goto 84 hC dX6_runScript_154 (by decide) ?_
      refine r_L [4, 5, 3, 1, 0] rfl ?_
      exact hk84 _ _ _ _ hf
    · have hf := if_T hf h
      refine r_iload hC dX6_runScript_148 5 rfl ?_
      exact r_iret hf hC (by decide) (by decide) dX6_runScript_150
set_option maxRecDepth 20000 in
theorem w_X6_runScript_b57 {X : XX} {G : GG} {Z : ZZ} {r : Int32} {M' : Mem} (hC : Cx X G RX6 cX6_runScript (some .int) 10 0 0 10) (hz : ZOk G Z) (hZ : ZM Z) (v1 : Int32) (w2 : Int64) (w4 : Int64) (s0 : Int32) (M : Mem) (hf : f_X6_runScript_b57 v1 w2 w4 s0 M = some (r, M')) : V X G Z M 0 0 (QN X G (QcI G Z r M') 0 0) 57 [(0, .ref (Z.1 27)), (1, .int v1), (2, .long w2), (4, .long w4)] [.int s0, .ref (Z.1 27)] := by
  unfold f_X6_runScript_b57 at hf
  refine r_callVI [] (fun r M1 h => c_X6_refused (cx_st hC) hz hZ s0 _  r M1 h) hf cs_X6_169 hC (z_1 hZ 27 (by decide) rfl) (q0 := (RX6, TX6, 19)) rfl rfl [.int s0] rfl rfl rfl (by decide) (by decide) (Nat.le_of_ble_eq_true rfl) (by decide) (by decide) dX6_runScript_57 (fun x5 M6 hf => ?_)
  refine r_if_eq 65 hC dX6_runScript_60 (by decide) (fun h => ?_) (fun h => ?_)
  · have hf := if_T hf h
    refine r_aload_n hC dX6_runScript_65 0 rfl ?_
    refine gf_X6_16 hC (z_1 hZ 27 (by decide) rfl) rfl dX6_runScript_66 ?_
    refine r_iconst (v := 0) hC dX6_runScript_69 rfl ?_
    refine r_aload_n hC dX6_runScript_70 0 rfl ?_
    refine gf_X6_19 hC (z_1 hZ 27 (by decide) rfl) rfl dX6_runScript_71 ?_
    refine r_iconst (v := 0) hC dX6_runScript_74 rfl ?_
    refine r_callSV [] (fun r M1 h => c_X6_copyPage (cx_st hC) hz hZ 30 0 31 0 _ ⟨by decide, rfl⟩ ⟨by decide, rfl⟩ r M1 h) hf cs_X6_192 hC  rfl rfl (by decide) (by decide) (Nat.le_of_ble_eq_true rfl) (by decide) (by decide) dX6_runScript_75 (fun x7 M8 hf => ?_)
    refine r_lload_n hC dX6_runScript_78 2 rfl ?_
    refine r_lstore (L' := [(6, .long w2), (0, .ref (Z.1 27)), (1, .int v1), (2, .long w2), (4, .long w4)]) hC dX6_runScript_79 (by decide) rfl ?_
    refine r_iconst (v := 0) hC dX6_runScript_81 rfl ?_
    refine r_istore (L' := [(8, .int 0), (6, .long w2), (0, .ref (Z.1 27)), (1, .int v1), (2, .long w2), (4, .long w4)]) hC dX6_runScript_82 (by decide) rfl ?_
    refine r_L [2, 3, 5, 1, 0] rfl ?_
    exact lq3_ind (P := fun (u4 : Int64) (u6 : Int64) (u8 : Int32) (M : Mem) => V X G Z M 0 0 (QN X G (QcI G Z r M') 0 0) 84 [(0, .ref (Z.1 27)), (1, .int v1), (4, .long u4), (6, .long u6), (8, .int u8)] []) (fun kk hkk u4 u6 u8 M hf => w_X6_runScript_b84 hC hz hZ v1 kk hkk u4 u6 u8 M hf) _ _ _ _ _ hf
  · have hf := if_F hf h
    refine r_iconst (v := 0) hC dX6_runScript_63 rfl ?_
    exact r_iret hf hC (by decide) (by decide) dX6_runScript_64
set_option maxRecDepth 20000 in
theorem w_X6_runScript_b56 {X : XX} {G : GG} {Z : ZZ} {r : Int32} {M' : Mem} (hC : Cx X G RX6 cX6_runScript (some .int) 10 0 0 10) (hz : ZOk G Z) (hZ : ZM Z) (v1 : Int32) (w2 : Int64) (w4 : Int64) (M : Mem) (hf : f_X6_runScript_b56 v1 w2 w4 M = some (r, M')) : V X G Z M 0 0 (QN X G (QcI G Z r M') 0 0) 56 [(0, .ref (Z.1 27)), (1, .int v1), (2, .long w2), (4, .long w4)] [.ref (Z.1 27)] := by
  unfold f_X6_runScript_b56 at hf
  refine r_iconst (v := 1) hC dX6_runScript_56 rfl ?_
  exact w_X6_runScript_b57 hC hz hZ v1 w2 w4 1 _ hf
set_option maxRecDepth 20000 in
theorem w_X6_runScript_b25 {X : XX} {G : GG} {Z : ZZ} {r : Int32} {M' : Mem} (hC : Cx X G RX6 cX6_runScript (some .int) 10 0 0 10) (hz : ZOk G Z) (hZ : ZM Z) (v1 : Int32) (w2 : Int64) (s0 : Int64) (M : Mem) (hf : f_X6_runScript_b25 v1 w2 s0 M = some (r, M')) : V X G Z M 0 0 (QN X G (QcI G Z r M') 0 0) 25 [(0, .ref (Z.1 27)), (1, .int v1), (2, .long w2)] [.long s0] := by
  unfold f_X6_runScript_b25 at hf
  refine r_lstore (L' := [(4, .long s0), (0, .ref (Z.1 27)), (1, .int v1), (2, .long w2)]) hC dX6_runScript_25 (by decide) rfl ?_
  refine r_aload_n hC dX6_runScript_27 1 rfl ?_
  refine r_iload_n hC dX6_runScript_28 2 rfl ?_
  refine r_i2l hC dX6_runScript_29 ?_
  refine r_lconst (v := 1) hC dX6_runScript_30 rfl ?_
  refine r_ldc2 (v := 3) hC dX6_runScript_31 kw_X6_250 ?_
  refine r_callSI [.ref (Z.1 27)] (fun r M1 h => c_X6_in (cx_st hC) hz hZ (Int32.toInt64 v1) 1 3 _  r M1 h) hf cs_X6_66 hC  rfl rfl (by decide) (by decide) (Nat.le_of_ble_eq_true rfl) (by decide) (by decide) dX6_runScript_34 (fun x1 M2 hf => ?_)
  refine r_if_eq 56 hC dX6_runScript_37 (by decide) (fun h => ?_) (fun h => ?_)
  · have hf := if_T hf h
    refine r_L [1, 2, 3, 0] rfl ?_
    exact w_X6_runScript_b56 hC hz hZ v1 w2 s0 _ hf
  · have hf := if_F hf h
    refine r_lload_n hC dX6_runScript_40 3 rfl ?_
    refine r_lconst (v := 0) hC dX6_runScript_41 rfl ?_
    refine r_lload hC dX6_runScript_42 0 rfl ?_
    refine r_lconst (v := 1) hC dX6_runScript_44 rfl ?_
    refine r_lsub hC dX6_runScript_45 ?_
    refine r_callSI [.ref (Z.1 27)] (fun r M1 h => c_X6_in (cx_st hC) hz hZ w2 0 (s0 - 1) _  r M1 h) hf cs_X6_66 hC  rfl rfl (by decide) (by decide) (Nat.le_of_ble_eq_true rfl) (by decide) (by decide) dX6_runScript_46 (fun x3 M4 hf => ?_)
    refine r_if_eq 56 hC dX6_runScript_49 (by decide) (fun h => ?_) (fun h => ?_)
    · have hf := if_T hf h
      refine r_L [1, 2, 3, 0] rfl ?_
      exact w_X6_runScript_b56 hC hz hZ v1 w2 s0 _ hf
    · have hf := if_F hf h
      refine r_iconst (v := 0) hC dX6_runScript_52 rfl ?_
      refine r_goto 57 hC dX6_runScript_53 (by decide) ?_
      refine r_L [1, 2, 3, 0] rfl ?_
      exact w_X6_runScript_b57 hC hz hZ v1 w2 s0 0 _ hf
set_option maxRecDepth 20000 in
theorem w_X6_runScript {X : XX} {G : GG} {Z : ZZ} (hC : Cx X G RX6 cX6_runScript (some .int) 10 0 0 10) (hz : ZOk G Z) (hZ : ZM Z) (v1 : Int32) (w2 : Int64) (M : Mem)  {r : Int32} {M' : Mem} (hf : f_X6_runScript v1 w2 M = some (r, M')) : V X G Z M 0 0 (QN X G (QcI G Z r M') 0 0) 0 [(0, .ref (Z.1 27)), (1, .int v1), (2, .long w2)] [] := by
  unfold f_X6_runScript at hf
  refine r_iload_n hC dX6_runScript_0 1 rfl ?_
  refine r_iconst (v := 1) hC dX6_runScript_1 rfl ?_
  refine r_icmp_ne 11 hC dX6_runScript_2 (by decide) (fun h => ?_) (fun h => ?_)
  · have hf := if_F hf h
    refine r_iload_n hC dX6_runScript_11 1 rfl ?_
    refine r_iconst (v := 2) hC dX6_runScript_12 rfl ?_
    refine r_icmp_ne 22 hC dX6_runScript_13 (by decide) (fun h => ?_) (fun h => ?_)
    · have hf := if_F hf h
      refine r_ldc2 (v := 1000000000000000) hC dX6_runScript_22 kw_X6_267 ?_
      exact w_X6_runScript_b25 hC hz hZ v1 w2 1000000000000000 _ hf
    · have hf := if_T hf h
      refine r_ldc2 (v := 10000000000) hC dX6_runScript_16 kw_X6_265 ?_
      refine r_goto 25 hC dX6_runScript_19 (by decide) ?_
      exact w_X6_runScript_b25 hC hz hZ v1 w2 10000000000 _ hf
  · have hf := if_T hf h
    refine r_ldc2 (v := 100000) hC dX6_runScript_5 kw_X6_263 ?_
    refine r_goto 25 hC dX6_runScript_8 (by decide) ?_
    exact w_X6_runScript_b25 hC hz hZ v1 w2 100000 _ hf
set_option maxRecDepth 20000 in
theorem c_X6_runScript {l : Launch} (hl : l.stackTraces = false) {G : GG} {Z : ZZ} (hz : ZOk G Z) (hZ : ZM Z) (v1 : Int32) (w2 : Int64) (M : Mem)  (r : Int32) (M' : Mem) (hf : f_X6_runScript v1 w2 M = some (r, M')) : CN (QcI G Z r M') l G Z yX6_runScript cX6_runScript 10 (some .int) 10 [.ref (Z.1 27), .int v1, .long w2] M :=
  CN.of [(0, .ref (Z.1 27)), (1, .int v1), (2, .long w2)] hl (by decide +kernel) (Nat.le_of_ble_eq_true rfl) rfl (fun _ hC => w_X6_runScript hC hz hZ v1 w2 M  hf)
set_option maxRecDepth 20000 in
theorem w_X6_simulate_b129 {X : XX} {G : GG} {Z : ZZ} {r : Int32} {M' : Mem} (hC : Cx X G RX6 cX6_simulate (some .int) 9 0 0 9) (hz : ZOk G Z) (hZ : ZM Z) (v3 : Int32) (w4 : Int64) (v6 : Int32) (k45 : Int64 → Int32 → Mem → Option (Int32 × Mem)) (hk45 : ∀ (u4 : Int64) (u6 : Int32) (M : Mem), k45 u4 u6 M = some (r, M') → V X G Z M 0 0 (QN X G (QcI G Z r M') 0 0) 45 [(0, .ref (Z.1 27)), (3, .int v3), (4, .long u4), (6, .int u6)] []) (s0 : Int32) (s1 : Int32) (s2 : Int32) (M : Mem) (hf : f_X6_simulate_b129 v3 w4 v6 k45 s0 s1 s2 M = some (r, M')) : V X G Z M 0 0 (QN X G (QcI G Z r M') 0 0) 129 [(0, .ref (Z.1 27)), (3, .int v3), (4, .long w4), (6, .int v6)] [.int s0, .int s1, .int s2, .ref (Z.1 27)] := by
  unfold f_X6_simulate_b129 at hf
  refine r_callVI [] (fun r M1 h => c_X6_writes (cx_st hC) hz hZ s2 s1 s0 _  r M1 h) hf cs_X6_259 hC (z_1 hZ 27 (by decide) rfl) (q0 := (RX6, TX6, 19)) rfl rfl [.int s2, .int s1, .int s0] rfl rfl rfl (by decide) (by decide) (Nat.le_of_ble_eq_true rfl) (by decide) (by decide) dX6_simulate_129 (fun x15 M16 hf => ?_)
  refine r_pop hC dX6_simulate_132 rfl ?_
  refine r_iinc (v := v6 + 1) (L' := [(6, .int (v6 + 1)), (0, .ref (Z.1 27)), (3, .int v3), (4, .long w4)]) hC dX6_simulate_133 3 rfl rfl (by decide) rfl ?_
  refine r_goto 45 hC dX6_simulate_136 (by decide) ?_
  refine r_L [1, 2, 3, 0] rfl ?_
  exact hk45 _ _ _ hf
set_option maxRecDepth 20000 in
theorem w_X6_simulate_b139 {X : XX} {G : GG} {Z : ZZ} {r : Int32} {M' : Mem} (hC : Cx X G RX6 cX6_simulate (some .int) 9 0 0 9) (hz : ZOk G Z) (hZ : ZM Z)  (M : Mem) (hf : f_X6_simulate_b139  M = some (r, M')) : V X G Z M 0 0 (QN X G (QcI G Z r M') 0 0) 139 [(0, .ref (Z.1 27))] [] := by
  unfold f_X6_simulate_b139 at hf
  refine r_aload_n hC dX6_simulate_139 0 rfl ?_
  refine r_aload_n hC dX6_simulate_140 0 rfl ?_
  refine gf_X6_19 hC (z_1 hZ 27 (by decide) rfl) rfl dX6_simulate_141 ?_
  refine r_iconst (v := 0) hC dX6_simulate_144 rfl ?_
  refine r_callVI [] (fun r M1 h => c_X6_wholeOf (cx_st hC) hz hZ 31 0 _ ⟨by decide, rfl⟩ r M1 h) hf cs_X6_256 hC (z_1 hZ 27 (by decide) rfl) (q0 := (RX6, TX6, 19)) rfl rfl [.ref (Z.1 31), .int 0] rfl rfl rfl (by decide) (by decide) (Nat.le_of_ble_eq_true rfl) (by decide) (by decide) dX6_simulate_145 (fun x7 M8 hf => ?_)
  refine r_sipush (v := 1000) hC dX6_simulate_148 rfl ?_
  refine r_aload_n hC dX6_simulate_151 0 rfl ?_
  refine r_aload_n hC dX6_simulate_152 0 rfl ?_
  refine gf_X6_19 hC (z_1 hZ 27 (by decide) rfl) rfl dX6_simulate_153 ?_
  refine r_iconst (v := 1) hC dX6_simulate_156 rfl ?_
  refine r_callVI [.int 1000, .int x7] (fun r M1 h => c_X6_wholeOf (cx_st hC) hz hZ 31 1 _ ⟨by decide, rfl⟩ r M1 h) hf cs_X6_256 hC (z_1 hZ 27 (by decide) rfl) (q0 := (RX6, TX6, 19)) rfl rfl [.ref (Z.1 31), .int 1] rfl rfl rfl (by decide) (by decide) (Nat.le_of_ble_eq_true rfl) (by decide) (by decide) dX6_simulate_157 (fun x9 M10 hf => ?_)
  refine r_aload_n hC dX6_simulate_160 0 rfl ?_
  refine r_aload_n hC dX6_simulate_161 0 rfl ?_
  refine gf_X6_19 hC (z_1 hZ 27 (by decide) rfl) rfl dX6_simulate_162 ?_
  refine r_iconst (v := 2) hC dX6_simulate_165 rfl ?_
  refine r_callVI [.int x9, .int 1000, .int x7] (fun r M1 h => c_X6_wholeOf (cx_st hC) hz hZ 31 2 _ ⟨by decide, rfl⟩ r M1 h) hf cs_X6_256 hC (z_1 hZ 27 (by decide) rfl) (q0 := (RX6, TX6, 19)) rfl rfl [.ref (Z.1 31), .int 2] rfl rfl rfl (by decide) (by decide) (Nat.le_of_ble_eq_true rfl) (by decide) (by decide) dX6_simulate_166 (fun x11 M12 hf => ?_)
  refine r_iadd hC dX6_simulate_169 ?_
  refine r_aload_n hC dX6_simulate_170 0 rfl ?_
  refine r_aload_n hC dX6_simulate_171 0 rfl ?_
  refine gf_X6_19 hC (z_1 hZ 27 (by decide) rfl) rfl dX6_simulate_172 ?_
  refine r_iconst (v := 3) hC dX6_simulate_175 rfl ?_
  refine r_callVI [.int (x9 + x11), .int 1000, .int x7] (fun r M1 h => c_X6_wholeOf (cx_st hC) hz hZ 31 3 _ ⟨by decide, rfl⟩ r M1 h) hf cs_X6_256 hC (z_1 hZ 27 (by decide) rfl) (q0 := (RX6, TX6, 19)) rfl rfl [.ref (Z.1 31), .int 3] rfl rfl rfl (by decide) (by decide) (Nat.le_of_ble_eq_true rfl) (by decide) (by decide) dX6_simulate_176 (fun x13 M14 hf => ?_)
  refine r_iadd hC dX6_simulate_179 ?_
  refine r_imul hC dX6_simulate_180 ?_
  refine r_iadd hC dX6_simulate_181 ?_
  exact r_iret hf hC (by decide) (by decide) dX6_simulate_182
set_option maxRecDepth 20000 in
theorem w_X6_simulate_b45 {X : XX} {G : GG} {Z : ZZ} {r : Int32} {M' : Mem} (hC : Cx X G RX6 cX6_simulate (some .int) 9 0 0 9) (hz : ZOk G Z) (hZ : ZM Z) (v3 : Int32) (k45 : Int64 → Int32 → Mem → Option (Int32 × Mem)) (hk45 : ∀ (u4 : Int64) (u6 : Int32) (M : Mem), k45 u4 u6 M = some (r, M') → V X G Z M 0 0 (QN X G (QcI G Z r M') 0 0) 45 [(0, .ref (Z.1 27)), (3, .int v3), (4, .long u4), (6, .int u6)] []) (w4 : Int64) (v6 : Int32) (M : Mem) (hf : f_X6_simulate_b45 v3 k45 w4 v6 M = some (r, M')) : V X G Z M 0 0 (QN X G (QcI G Z r M') 0 0) 45 [(0, .ref (Z.1 27)), (3, .int v3), (4, .long w4), (6, .int v6)] [] := by
  unfold f_X6_simulate_b45 at hf
  refine r_iload hC dX6_simulate_45 3 rfl ?_
  refine r_iload_n hC dX6_simulate_47 1 rfl ?_
  refine r_icmp_ge 139 hC dX6_simulate_48 (by decide) (fun h => ?_) (fun h => ?_)
  · have hf := if_T hf h
    refine r_L [0] rfl ?_
    exact w_X6_simulate_b139 hC hz hZ  _ hf
  · have hf := if_F hf h
    refine r_lload hC dX6_simulate_51 2 rfl ?_
    refine r_ldc2 (v := 6364136223846793005) hC dX6_simulate_53 kw_X6_275 ?_
    refine r_lmul hC dX6_simulate_56 ?_
    refine r_ldc2 (v := 1442695040888963407) hC dX6_simulate_57 kw_X6_277 ?_
    refine r_ladd hC dX6_simulate_60 ?_
    refine r_lstore (L' := [(4, .long ((w4 * 6364136223846793005) + 1442695040888963407)), (0, .ref (Z.1 27)), (3, .int v3), (6, .int v6)]) hC dX6_simulate_61 (by decide) rfl ?_
    refine r_lload hC dX6_simulate_63 0 rfl ?_
    refine r_bipush (v := 33) hC dX6_simulate_65 rfl ?_
    refine r_lushr hC dX6_simulate_67 ?_
    refine r_l2i hC dX6_simulate_68 ?_
    refine r_istore (L' := [(7, .int (Int64.toInt32 ((Int64.toUInt64 ((w4 * 6364136223846793005) + 1442695040888963407) >>> ((Int32.toInt64 33).toUInt64 &&& Int64.toUInt64 63)).toInt64))), (4, .long ((w4 * 6364136223846793005) + 1442695040888963407)), (0, .ref (Z.1 27)), (3, .int v3), (6, .int v6)]) hC dX6_simulate_69 (by decide) rfl ?_
    refine r_iload hC dX6_simulate_71 0 rfl ?_
    refine r_bipush (v := 64) hC dX6_simulate_73 rfl ?_
    refine r_idiv hC dX6_simulate_75 (by decide) ?_
    refine r_bipush (v := 64) hC dX6_simulate_76 rfl ?_
    refine r_irem hC dX6_simulate_78 (by decide) ?_
    refine r_istore (L' := [(8, .int (((Int64.toInt32 ((Int64.toUInt64 ((w4 * 6364136223846793005) + 1442695040888963407) >>> ((Int32.toInt64 33).toUInt64 &&& Int64.toUInt64 63)).toInt64)) / 64) - ((Int64.toInt32 ((Int64.toUInt64 ((w4 * 6364136223846793005) + 1442695040888963407) >>> ((Int32.toInt64 33).toUInt64 &&& Int64.toUInt64 63)).toInt64)) / 64) / 64 * 64)), (7, .int (Int64.toInt32 ((Int64.toUInt64 ((w4 * 6364136223846793005) + 1442695040888963407) >>> ((Int32.toInt64 33).toUInt64 &&& Int64.toUInt64 63)).toInt64))), (4, .long ((w4 * 6364136223846793005) + 1442695040888963407)), (0, .ref (Z.1 27)), (3, .int v3), (6, .int v6)]) hC dX6_simulate_79 (by decide) rfl ?_
    refine r_aload_n hC dX6_simulate_81 3 rfl ?_
    refine r_iload hC dX6_simulate_82 1 rfl ?_
    refine r_aload_n hC dX6_simulate_84 3 rfl ?_
    refine gf_X6_19 hC (z_1 hZ 27 (by decide) rfl) rfl dX6_simulate_85 ?_
    refine r_bipush (v := 6) hC dX6_simulate_88 rfl ?_
    have hin := if_K hf
    have hf := if_V hf
    refine r_iald hC (z_1 hZ 31 (by decide) rfl) (inb_vp hin) dX6_simulate_90 ?_
    have hne := if_K hf
    have hf := if_V hf
    refine r_irem hC dX6_simulate_91 hne ?_
    refine r_iload hC dX6_simulate_92 1 rfl ?_
    refine r_iconst (v := 4) hC dX6_simulate_94 rfl ?_
    refine r_idiv hC dX6_simulate_95 (by decide) ?_
    refine r_aload_n hC dX6_simulate_96 3 rfl ?_
    refine gf_X6_19 hC (z_1 hZ 27 (by decide) rfl) rfl dX6_simulate_97 ?_
    refine r_bipush (v := 7) hC dX6_simulate_100 rfl ?_
    have hin := if_K hf
    have hf := if_V hf
    refine r_iald hC (z_1 hZ 31 (by decide) rfl) (inb_vp hin) dX6_simulate_102 ?_
    have hne := if_K hf
    have hf := if_V hf
    refine r_irem hC dX6_simulate_103 hne ?_
    refine r_iload hC dX6_simulate_104 0 rfl ?_
    refine r_bipush (v := 60) hC dX6_simulate_106 rfl ?_
    refine r_icmp_gt 116 hC dX6_simulate_108 (by decide) (fun h => ?_) (fun h => ?_)
    · have hf := if_T hf h
      refine r_iload hC dX6_simulate_116 0 rfl ?_
      refine r_bipush (v := 61) hC dX6_simulate_118 rfl ?_
      refine r_icmp_ne 127 hC dX6_simulate_120 (by decide) (fun h => ?_) (fun h => ?_)
      · have hf := if_F hf h
        refine r_bipush (v := 99) hC dX6_simulate_127 rfl ?_
        refine r_L [3, 4, 2, 5] rfl ?_
        exact w_X6_simulate_b129 hC hz hZ v3 ((w4 * 6364136223846793005) + 1442695040888963407) v6 k45 hk45 99 (((Int64.toInt32 ((Int64.toUInt64 ((w4 * 6364136223846793005) + 1442695040888963407) >>> ((Int32.toInt64 33).toUInt64 &&& Int64.toUInt64 63)).toInt64)) / 4) - ((Int64.toInt32 ((Int64.toUInt64 ((w4 * 6364136223846793005) + 1442695040888963407) >>> ((Int32.toInt64 33).toUInt64 &&& Int64.toUInt64 63)).toInt64)) / 4) / (M 31 (Int32.toNatClampNeg 7)) * (M 31 (Int32.toNatClampNeg 7))) ((Int64.toInt32 ((Int64.toUInt64 ((w4 * 6364136223846793005) + 1442695040888963407) >>> ((Int32.toInt64 33).toUInt64 &&& Int64.toUInt64 63)).toInt64)) - (Int64.toInt32 ((Int64.toUInt64 ((w4 * 6364136223846793005) + 1442695040888963407) >>> ((Int32.toInt64 33).toUInt64 &&& Int64.toUInt64 63)).toInt64)) / (M 31 (Int32.toNatClampNeg 6)) * (M 31 (Int32.toNatClampNeg 6))) _ hf
      · have hf := if_T hf h
        refine r_iconst (v := (-1)) hC dX6_simulate_123 rfl ?_
        refine r_goto 129 hC dX6_simulate_124 (by decide) ?_
        refine r_L [3, 4, 2, 5] rfl ?_
        exact w_X6_simulate_b129 hC hz hZ v3 ((w4 * 6364136223846793005) + 1442695040888963407) v6 k45 hk45 (-1) (((Int64.toInt32 ((Int64.toUInt64 ((w4 * 6364136223846793005) + 1442695040888963407) >>> ((Int32.toInt64 33).toUInt64 &&& Int64.toUInt64 63)).toInt64)) / 4) - ((Int64.toInt32 ((Int64.toUInt64 ((w4 * 6364136223846793005) + 1442695040888963407) >>> ((Int32.toInt64 33).toUInt64 &&& Int64.toUInt64 63)).toInt64)) / 4) / (M 31 (Int32.toNatClampNeg 7)) * (M 31 (Int32.toNatClampNeg 7))) ((Int64.toInt32 ((Int64.toUInt64 ((w4 * 6364136223846793005) + 1442695040888963407) >>> ((Int32.toInt64 33).toUInt64 &&& Int64.toUInt64 63)).toInt64)) - (Int64.toInt32 ((Int64.toUInt64 ((w4 * 6364136223846793005) + 1442695040888963407) >>> ((Int32.toInt64 33).toUInt64 &&& Int64.toUInt64 63)).toInt64)) / (M 31 (Int32.toNatClampNeg 6)) * (M 31 (Int32.toNatClampNeg 6))) _ hf
    · have hf := if_F hf h
      refine r_iload hC dX6_simulate_111 0 rfl ?_
      refine r_goto 129 hC dX6_simulate_113 (by decide) ?_
      refine r_L [3, 4, 2, 5] rfl ?_
      exact w_X6_simulate_b129 hC hz hZ v3 ((w4 * 6364136223846793005) + 1442695040888963407) v6 k45 hk45 (((Int64.toInt32 ((Int64.toUInt64 ((w4 * 6364136223846793005) + 1442695040888963407) >>> ((Int32.toInt64 33).toUInt64 &&& Int64.toUInt64 63)).toInt64)) / 64) - ((Int64.toInt32 ((Int64.toUInt64 ((w4 * 6364136223846793005) + 1442695040888963407) >>> ((Int32.toInt64 33).toUInt64 &&& Int64.toUInt64 63)).toInt64)) / 64) / 64 * 64) (((Int64.toInt32 ((Int64.toUInt64 ((w4 * 6364136223846793005) + 1442695040888963407) >>> ((Int32.toInt64 33).toUInt64 &&& Int64.toUInt64 63)).toInt64)) / 4) - ((Int64.toInt32 ((Int64.toUInt64 ((w4 * 6364136223846793005) + 1442695040888963407) >>> ((Int32.toInt64 33).toUInt64 &&& Int64.toUInt64 63)).toInt64)) / 4) / (M 31 (Int32.toNatClampNeg 7)) * (M 31 (Int32.toNatClampNeg 7))) ((Int64.toInt32 ((Int64.toUInt64 ((w4 * 6364136223846793005) + 1442695040888963407) >>> ((Int32.toInt64 33).toUInt64 &&& Int64.toUInt64 63)).toInt64)) - (Int64.toInt32 ((Int64.toUInt64 ((w4 * 6364136223846793005) + 1442695040888963407) >>> ((Int32.toInt64 33).toUInt64 &&& Int64.toUInt64 63)).toInt64)) / (M 31 (Int32.toNatClampNeg 6)) * (M 31 (Int32.toNatClampNeg 6))) _ hf
set_option maxRecDepth 20000 in
theorem w_X6_simulate_b18 {X : XX} {G : GG} {Z : ZZ} {r : Int32} {M' : Mem} (hC : Cx X G RX6 cX6_simulate (some .int) 9 0 0 9) (hz : ZOk G Z) (hZ : ZM Z) (w1 : Int64) (v3 : Int32) (s0 : Int32) (M : Mem) (hf : f_X6_simulate_b18 w1 v3 s0 M = some (r, M')) : V X G Z M 0 0 (QN X G (QcI G Z r M') 0 0) 18 [(0, .ref (Z.1 27)), (1, .long w1), (3, .int v3)] [.int s0, .ref (Z.1 27)] := by
  unfold f_X6_simulate_b18 at hf
  refine r_callVI [] (fun r M1 h => c_X6_refused (cx_st hC) hz hZ s0 _  r M1 h) hf cs_X6_169 hC (z_1 hZ 27 (by decide) rfl) (q0 := (RX6, TX6, 19)) rfl rfl [.int s0] rfl rfl rfl (by decide) (by decide) (Nat.le_of_ble_eq_true rfl) (by decide) (by decide) dX6_simulate_18 (fun x3 M4 hf => ?_)
  refine r_if_eq 26 hC dX6_simulate_21 (by decide) (fun h => ?_) (fun h => ?_)
  · have hf := if_T hf h
    refine r_aload_n hC dX6_simulate_26 0 rfl ?_
    refine gf_X6_16 hC (z_1 hZ 27 (by decide) rfl) rfl dX6_simulate_27 ?_
    refine r_iconst (v := 0) hC dX6_simulate_30 rfl ?_
    refine r_aload_n hC dX6_simulate_31 0 rfl ?_
    refine gf_X6_19 hC (z_1 hZ 27 (by decide) rfl) rfl dX6_simulate_32 ?_
    refine r_iconst (v := 0) hC dX6_simulate_35 rfl ?_
    refine r_callSV [] (fun r M1 h => c_X6_copyPage (cx_st hC) hz hZ 30 0 31 0 _ ⟨by decide, rfl⟩ ⟨by decide, rfl⟩ r M1 h) hf cs_X6_192 hC  rfl rfl (by decide) (by decide) (Nat.le_of_ble_eq_true rfl) (by decide) (by decide) dX6_simulate_36 (fun x5 M6 hf => ?_)
    refine r_lload_n hC dX6_simulate_39 1 rfl ?_
    refine r_lstore (L' := [(4, .long w1), (0, .ref (Z.1 27)), (1, .long w1), (3, .int v3)]) hC dX6_simulate_40 (by decide) rfl ?_
    refine r_iconst (v := 0) hC dX6_simulate_42 rfl ?_
    refine r_istore (L' := [(6, .int 0), (4, .long w1), (0, .ref (Z.1 27)), (1, .long w1), (3, .int v3)]) hC dX6_simulate_43 (by decide) rfl ?_
    refine r_L [2, 4, 1, 0] rfl ?_
    exact lq2_ind (P := fun (u4 : Int64) (u6 : Int32) (M : Mem) => V X G Z M 0 0 (QN X G (QcI G Z r M') 0 0) 45 [(0, .ref (Z.1 27)), (3, .int v3), (4, .long u4), (6, .int u6)] []) (fun kk hkk u4 u6 M hf => w_X6_simulate_b45 hC hz hZ v3 kk hkk u4 u6 M hf) _ _ _ _ hf
  · have hf := if_F hf h
    refine r_iconst (v := 0) hC dX6_simulate_24 rfl ?_
    exact r_iret hf hC (by decide) (by decide) dX6_simulate_25
set_option maxRecDepth 20000 in
theorem w_X6_simulate {X : XX} {G : GG} {Z : ZZ} (hC : Cx X G RX6 cX6_simulate (some .int) 9 0 0 9) (hz : ZOk G Z) (hZ : ZM Z) (w1 : Int64) (v3 : Int32) (M : Mem)  {r : Int32} {M' : Mem} (hf : f_X6_simulate w1 v3 M = some (r, M')) : V X G Z M 0 0 (QN X G (QcI G Z r M') 0 0) 0 [(0, .ref (Z.1 27)), (1, .long w1), (3, .int v3)] [] := by
  unfold f_X6_simulate at hf
  refine r_aload_n hC dX6_simulate_0 0 rfl ?_
  refine r_iload_n hC dX6_simulate_1 2 rfl ?_
  refine r_i2l hC dX6_simulate_2 ?_
  refine r_lconst (v := 1) hC dX6_simulate_3 rfl ?_
  refine r_ldc2 (v := 40) hC dX6_simulate_4 kw_X6_273 ?_
  refine r_callSI [.ref (Z.1 27)] (fun r M1 h => c_X6_in (cx_st hC) hz hZ (Int32.toInt64 v3) 1 40 _  r M1 h) hf cs_X6_66 hC  rfl rfl (by decide) (by decide) (Nat.le_of_ble_eq_true rfl) (by decide) (by decide) dX6_simulate_7 (fun x1 M2 hf => ?_)
  refine r_if_eq 17 hC dX6_simulate_10 (by decide) (fun h => ?_) (fun h => ?_)
  · have hf := if_T hf h
    refine r_iconst (v := 1) hC dX6_simulate_17 rfl ?_
    exact w_X6_simulate_b18 hC hz hZ w1 v3 1 _ hf
  · have hf := if_F hf h
    refine r_iconst (v := 0) hC dX6_simulate_13 rfl ?_
    refine r_goto 18 hC dX6_simulate_14 (by decide) ?_
    exact w_X6_simulate_b18 hC hz hZ w1 v3 0 _ hf
set_option maxRecDepth 20000 in
theorem c_X6_simulate {l : Launch} (hl : l.stackTraces = false) {G : GG} {Z : ZZ} (hz : ZOk G Z) (hZ : ZM Z) (w1 : Int64) (v3 : Int32) (M : Mem)  (r : Int32) (M' : Mem) (hf : f_X6_simulate w1 v3 M = some (r, M')) : CN (QcI G Z r M') l G Z yX6_simulate cX6_simulate 9 (some .int) 9 [.ref (Z.1 27), .long w1, .int v3] M :=
  CN.of [(0, .ref (Z.1 27)), (1, .long w1), (3, .int v3)] hl (by decide +kernel) (Nat.le_of_ble_eq_true rfl) rfl (fun _ hC => w_X6_simulate hC hz hZ w1 v3 M  hf)
set_option maxRecDepth 20000 in
theorem w_X6_save_b16 {X : XX} {G : GG} {Z : ZZ} {r : Int32} {M' : Mem} (hC : Cx X G RX6 cX6_save (some .int) 1 0 0 2) (hz : ZOk G Z) (hZ : ZM Z) (v1 : Int32) (s0 : Int32) (M : Mem) (hf : f_X6_save_b16 v1 s0 M = some (r, M')) : V X G Z M 0 0 (QN X G (QcI G Z r M') 0 0) 16 [(0, .ref (Z.1 27)), (1, .int v1)] [.int s0, .ref (Z.1 27)] := by
  unfold f_X6_save_b16 at hf
  refine r_callVI [] (fun r M1 h => c_X6_refused (cx_st hC) hz hZ s0 _  r M1 h) hf cs_X6_169 hC (z_1 hZ 27 (by decide) rfl) (q0 := (RX6, TX6, 19)) rfl rfl [.int s0] rfl rfl rfl (by decide) (by decide) (Nat.le_of_ble_eq_true rfl) (by decide) (by decide) dX6_save_16 (fun x3 M4 hf => ?_)
  refine r_if_eq 24 hC dX6_save_19 (by decide) (fun h => ?_) (fun h => ?_)
  · have hf := if_T hf h
    refine r_aload_n hC dX6_save_24 0 rfl ?_
    refine gf_X6_31 hC (z_1 hZ 27 (by decide) rfl) rfl dX6_save_25 ?_
    refine r_iload_n hC dX6_save_28 1 rfl ?_
    refine r_iconst (v := 1) hC dX6_save_29 rfl ?_
    have hin := if_K hf
    have hf := if_V hf
    refine r_zast hC hz (z_1 hZ 35 (by decide) rfl) (inb_vp hin) dX6_save_30 ?_
    refine r_aload_n hC dX6_save_31 0 rfl ?_
    refine gf_X6_16 hC (z_1 hZ 27 (by decide) rfl) rfl dX6_save_32 ?_
    refine r_iconst (v := 0) hC dX6_save_35 rfl ?_
    refine r_aload_n hC dX6_save_36 0 rfl ?_
    refine gf_X6_28 hC (z_1 hZ 27 (by decide) rfl) rfl dX6_save_37 ?_
    refine r_bipush (v := 72) hC dX6_save_40 rfl ?_
    refine r_iload_n hC dX6_save_42 1 rfl ?_
    refine r_imul hC dX6_save_43 ?_
    refine r_callSV [] (fun r M1 h => c_X6_copyPage (cx_st hC) hz hZ 30 0 34 (72 * v1) _ ⟨by decide, rfl⟩ ⟨by decide, rfl⟩ r M1 h) hf cs_X6_192 hC  rfl rfl (by decide) (by decide) (Nat.le_of_ble_eq_true rfl) (by decide) (by decide) dX6_save_44 (fun x5 M6 hf => ?_)
    refine r_aload_n hC dX6_save_47 0 rfl ?_
    refine gf_X6_16 hC (z_1 hZ 27 (by decide) rfl) rfl dX6_save_48 ?_
    refine r_bipush (v := 7) hC dX6_save_51 rfl ?_
    have hin := if_K hf
    have hf := if_V hf
    refine r_iald hC (z_1 hZ 30 (by decide) rfl) (inb_vp hin) dX6_save_53 ?_
    exact r_iret hf hC (by decide) (by decide) dX6_save_54
  · have hf := if_F hf h
    refine r_iconst (v := 0) hC dX6_save_22 rfl ?_
    exact r_iret hf hC (by decide) (by decide) dX6_save_23
set_option maxRecDepth 20000 in
theorem w_X6_save {X : XX} {G : GG} {Z : ZZ} (hC : Cx X G RX6 cX6_save (some .int) 1 0 0 2) (hz : ZOk G Z) (hZ : ZM Z) (v1 : Int32) (M : Mem)  {r : Int32} {M' : Mem} (hf : f_X6_save v1 M = some (r, M')) : V X G Z M 0 0 (QN X G (QcI G Z r M') 0 0) 0 [(0, .ref (Z.1 27)), (1, .int v1)] [] := by
  unfold f_X6_save at hf
  refine r_aload_n hC dX6_save_0 0 rfl ?_
  refine r_iload_n hC dX6_save_1 1 rfl ?_
  refine r_i2l hC dX6_save_2 ?_
  refine r_lconst (v := 0) hC dX6_save_3 rfl ?_
  refine r_lconst (v := 1) hC dX6_save_4 rfl ?_
  refine r_callSI [.ref (Z.1 27)] (fun r M1 h => c_X6_in (cx_st hC) hz hZ (Int32.toInt64 v1) 0 1 _  r M1 h) hf cs_X6_66 hC  rfl rfl (by decide) (by decide) (Nat.le_of_ble_eq_true rfl) (by decide) (by decide) dX6_save_5 (fun x1 M2 hf => ?_)
  refine r_if_eq 15 hC dX6_save_8 (by decide) (fun h => ?_) (fun h => ?_)
  · have hf := if_T hf h
    refine r_iconst (v := 1) hC dX6_save_15 rfl ?_
    exact w_X6_save_b16 hC hz hZ v1 1 _ hf
  · have hf := if_F hf h
    refine r_iconst (v := 0) hC dX6_save_11 rfl ?_
    refine r_goto 16 hC dX6_save_12 (by decide) ?_
    exact w_X6_save_b16 hC hz hZ v1 0 _ hf
set_option maxRecDepth 20000 in
theorem c_X6_save {l : Launch} (hl : l.stackTraces = false) {G : GG} {Z : ZZ} (hz : ZOk G Z) (hZ : ZM Z) (v1 : Int32) (M : Mem)  (r : Int32) (M' : Mem) (hf : f_X6_save v1 M = some (r, M')) : CN (QcI G Z r M') l G Z yX6_save cX6_save 2 (some .int) 1 [.ref (Z.1 27), .int v1] M :=
  CN.of [(0, .ref (Z.1 27)), (1, .int v1)] hl (by decide +kernel) (Nat.le_of_ble_eq_true rfl) rfl (fun _ hC => w_X6_save hC hz hZ v1 M  hf)
set_option maxRecDepth 20000 in
theorem w_X6_restore_b29 {X : XX} {G : GG} {Z : ZZ} {r : Int32} {M' : Mem} (hC : Cx X G RX6 cX6_restore (some .int) 1 0 0 2) (hz : ZOk G Z) (hZ : ZM Z) (v1 : Int32) (s0 : Int32) (M : Mem) (hf : f_X6_restore_b29 v1 s0 M = some (r, M')) : V X G Z M 0 0 (QN X G (QcI G Z r M') 0 0) 29 [(0, .ref (Z.1 27)), (1, .int v1)] [.int s0, .ref (Z.1 27)] := by
  unfold f_X6_restore_b29 at hf
  refine r_callVI [] (fun r M1 h => c_X6_refused (cx_st hC) hz hZ s0 _  r M1 h) hf cs_X6_169 hC (z_1 hZ 27 (by decide) rfl) (q0 := (RX6, TX6, 19)) rfl rfl [.int s0] rfl rfl rfl (by decide) (by decide) (Nat.le_of_ble_eq_true rfl) (by decide) (by decide) dX6_restore_29 (fun x3 M4 hf => ?_)
  refine r_if_eq 37 hC dX6_restore_32 (by decide) (fun h => ?_) (fun h => ?_)
  · have hf := if_T hf h
    refine r_aload_n hC dX6_restore_37 0 rfl ?_
    refine gf_X6_28 hC (z_1 hZ 27 (by decide) rfl) rfl dX6_restore_38 ?_
    refine r_bipush (v := 72) hC dX6_restore_41 rfl ?_
    refine r_iload_n hC dX6_restore_43 1 rfl ?_
    refine r_imul hC dX6_restore_44 ?_
    refine r_aload_n hC dX6_restore_45 0 rfl ?_
    refine gf_X6_16 hC (z_1 hZ 27 (by decide) rfl) rfl dX6_restore_46 ?_
    refine r_iconst (v := 0) hC dX6_restore_49 rfl ?_
    refine r_callSV [] (fun r M1 h => c_X6_copyPage (cx_st hC) hz hZ 34 (72 * v1) 30 0 _ ⟨by decide, rfl⟩ ⟨by decide, rfl⟩ r M1 h) hf cs_X6_192 hC  rfl rfl (by decide) (by decide) (Nat.le_of_ble_eq_true rfl) (by decide) (by decide) dX6_restore_50 (fun x5 M6 hf => ?_)
    refine r_aload_n hC dX6_restore_53 0 rfl ?_
    refine r_iconst (v := 0) hC dX6_restore_54 rfl ?_
    refine pf_X6_196 hC hz (z_1 hZ 27 (by decide) rfl) rfl dX6_restore_55 ?_
    refine r_aload_n hC dX6_restore_58 0 rfl ?_
    refine gf_X6_16 hC (z_1 hZ 27 (by decide) rfl) rfl dX6_restore_59 ?_
    refine r_bipush (v := 7) hC dX6_restore_62 rfl ?_
    have hin := if_K hf
    have hf := if_V hf
    refine r_iald hC (z_1 hZ 30 (by decide) rfl) (inb_vp hin) dX6_restore_64 ?_
    exact r_iret hf hC (by decide) (by decide) dX6_restore_65
  · have hf := if_F hf h
    refine r_iconst (v := 0) hC dX6_restore_35 rfl ?_
    exact r_iret hf hC (by decide) (by decide) dX6_restore_36
set_option maxRecDepth 20000 in
theorem w_X6_restore {X : XX} {G : GG} {Z : ZZ} (hC : Cx X G RX6 cX6_restore (some .int) 1 0 0 2) (hz : ZOk G Z) (hZ : ZM Z) (v1 : Int32) (M : Mem)  {r : Int32} {M' : Mem} (hf : f_X6_restore v1 M = some (r, M')) : V X G Z M 0 0 (QN X G (QcI G Z r M') 0 0) 0 [(0, .ref (Z.1 27)), (1, .int v1)] [] := by
  unfold f_X6_restore at hf
  refine r_aload_n hC dX6_restore_0 0 rfl ?_
  refine r_iload_n hC dX6_restore_1 1 rfl ?_
  refine r_i2l hC dX6_restore_2 ?_
  refine r_lconst (v := 0) hC dX6_restore_3 rfl ?_
  refine r_lconst (v := 1) hC dX6_restore_4 rfl ?_
  refine r_callSI [.ref (Z.1 27)] (fun r M1 h => c_X6_in (cx_st hC) hz hZ (Int32.toInt64 v1) 0 1 _  r M1 h) hf cs_X6_66 hC  rfl rfl (by decide) (by decide) (Nat.le_of_ble_eq_true rfl) (by decide) (by decide) dX6_restore_5 (fun x1 M2 hf => ?_)
  refine r_if_ne 15 hC dX6_restore_8 (by decide) (fun h => ?_) (fun h => ?_)
  · have hf := if_F hf h
    refine r_aload_n hC dX6_restore_15 0 rfl ?_
    refine gf_X6_31 hC (z_1 hZ 27 (by decide) rfl) rfl dX6_restore_16 ?_
    refine r_iload_n hC dX6_restore_19 1 rfl ?_
    have hin := if_K hf
    have hf := if_V hf
    refine r_zald hC (z_1 hZ 35 (by decide) rfl) (inb_vp hin) dX6_restore_20 ?_
    refine r_if_ne 28 hC dX6_restore_21 (by decide) (fun h => ?_) (fun h => ?_)
    · have hf := if_F hf h
      refine r_iconst (v := 0) hC dX6_restore_28 rfl ?_
      exact w_X6_restore_b29 hC hz hZ v1 0 _ hf
    · have hf := if_T hf h
      refine r_iconst (v := 2) hC dX6_restore_24 rfl ?_
      refine r_goto 29 hC dX6_restore_25 (by decide) ?_
      exact w_X6_restore_b29 hC hz hZ v1 2 _ hf
  · have hf := if_T hf h
    refine r_iconst (v := 1) hC dX6_restore_11 rfl ?_
    refine r_goto 29 hC dX6_restore_12 (by decide) ?_
    exact w_X6_restore_b29 hC hz hZ v1 1 _ hf
set_option maxRecDepth 20000 in
theorem c_X6_restore {l : Launch} (hl : l.stackTraces = false) {G : GG} {Z : ZZ} (hz : ZOk G Z) (hZ : ZM Z) (v1 : Int32) (M : Mem)  (r : Int32) (M' : Mem) (hf : f_X6_restore v1 M = some (r, M')) : CN (QcI G Z r M') l G Z yX6_restore cX6_restore 2 (some .int) 1 [.ref (Z.1 27), .int v1] M :=
  CN.of [(0, .ref (Z.1 27)), (1, .int v1)] hl (by decide +kernel) (Nat.le_of_ble_eq_true rfl) rfl (fun _ hC => w_X6_restore hC hz hZ v1 M  hf)
