set_option maxRecDepth 20000 in
set_option maxHeartbeats 1000000 in
theorem w_L_number {X : XX} {G : GG} {Z : ZZ} (hC : Cx X G RL cL_number (some .int) 0 0 0 2) (hz : ZOk G Z) (hZ : ZM Z) (v1 : Int32) (M : Mem) {r : Int32} {M' : Mem} (hf : f_L_number (scG G) (lnG G) v1 M = some (r, M')) : V X G Z M 0 0 (QN X G (QcI G Z r M') 0 0) 0 [(0, .ref (G.2.2.2 3)), (1, .int v1)] [] := by
  have hb : 0 + 0 ≤ 0 := Nat.le_refl _
  have hn : 0 ≤ 6 * 0 := Nat.le_refl _
  unfold f_L_number at hf
  refine r_iload_n hC dL_number_0 1 rfl ?_
  refine r_aload_n hC dL_number_1 0 rfl ?_
  refine r_slen hC dL_number_2 ?_
  refine r_icmp_ge 12 hC dL_number_3 (by decide) (fun h => ?_) (fun h => ?_)
  · have hf := if_T hf h
    refine r_ldc (v := 15515123) hC dL_number_12 kw_L_89 ?_
    refine r_iload_n hC dL_number_14 1 rfl ?_
    refine r_iconst (v := 5) hC dL_number_15 rfl ?_
    refine r_iadd hC dL_number_16 ?_
    refine r_imul hC dL_number_17 ?_
    refine r_sipush (v := 9887) hC dL_number_18 rfl ?_
    refine r_iadd hC dL_number_21 ?_
    refine r_ldc (v := 2147483647) hC dL_number_22 kw_L_90 ?_
    refine r_iand hC dL_number_24 ?_
    exact r_iret hf hC (by omega) (by omega) dL_number_25
  · have hf := if_F hf h
    refine r_aload_n hC dL_number_6 0 rfl ?_
    refine r_iload_n hC dL_number_7 1 rfl ?_
    have hin := if_K hf
    have hf := if_V hf
    refine r_sld hC (inb_vp hin) dL_number_8 ?_
    refine r_goto 22 hC dL_number_9 (by decide) ?_
    refine r_ldc (v := 2147483647) hC dL_number_22 kw_L_90 ?_
    refine r_iand hC dL_number_24 ?_
    exact r_iret hf hC (by omega) (by omega) dL_number_25
set_option maxRecDepth 20000 in
set_option maxHeartbeats 1000000 in
theorem c_L_number {l : Launch} (hl : l.stackTraces = false) {G : GG} {Z : ZZ} (hz : ZOk G Z) (hZ : ZM Z) (v1 : Int32) (M : Mem) (r : Int32) (M' : Mem) (hf : f_L_number (scG G) (lnG G) v1 M = some (r, M')) : CC (QcI G Z r M') l G Z yL_number cL_number 2 (some .int) 0 0 0 [.ref (G.2.2.2 3), .int v1] M :=
  CC.of [(0, .ref (G.2.2.2 3)), (1, .int v1)] hl (by decide +kernel) (Nat.le_of_ble_eq_true rfl) rfl (fun _ hC => w_L_number hC hz hZ v1 M hf)
set_option maxRecDepth 20000 in
set_option maxHeartbeats 1000000 in
theorem w_L_put {X : XX} {G : GG} {Z : ZZ} (hC : Cx X G RL cL_put (some .boolean) 8 2 12 3) (hz : ZOk G Z) (hZ : ZM Z) (hzq : ZOk G (swZ Z)) (hZq : ZM (swZ Z)) (v2 : Int32) (M : Mem) {r : Int32} {M' : Mem} (hf : f_L_put v2 M = some (r, M')) : V X G Z M 0 0 (QN X G (QcI G Z r M') 2 12) 0 [(0, .ref (Z.1 0)), (1, .ref (Z.1 400)), (2, .int v2)] [] := by
  have hb : 0 + 2 ≤ 2 := Nat.le_refl _
  have hn : 0 ≤ 6 * 0 := Nat.le_refl _
  unfold f_L_put at hf
  refine r_aload_n hC dL_put_0 0 rfl ?_
  refine r_iload_n hC dL_put_1 2 rfl ?_
  refine r_wcall [] (fun r M1 h => c_L_tryAppend (cx_st hC) hz hZ v2 _ r M1 h) hf cs_L_91 hC rfl rfl (by decide) (by decide) (Nat.le_of_ble_eq_true rfl) (by omega) (by omega) dL_put_2 (fun x1 M2 hf => ?_)
  refine r_if_le 20 hC dL_put_5 (by decide) (fun h => ?_) (fun h => ?_)
  · have hf := if_T hf h
    refine r_iconst (v := 0) hC dL_put_20 rfl ?_
    exact r_zret hf hC rfl rfl (by omega) (by omega) dL_put_21
  · have hf := if_F hf h
    refine r_aload_n hC dL_put_8 1 rfl ?_
    refine r_iload_n hC dL_put_9 2 rfl ?_
    refine V_sw ?_
    refine r_wcall [] (fun r M1 h => c_L_tryAppend (cx_st hC) hzq hZq v2 _ r M1 h) hf cs_L_91 hC rfl rfl (by decide) (by decide) (Nat.le_of_ble_eq_true rfl) (by omega) (by omega) dL_put_10 (fun x3 M4 hf => ?_)
    refine V_sb ?_
    refine r_if_le 20 hC dL_put_13 (by decide) (fun h => ?_) (fun h => ?_)
    · have hf := if_T hf h
      refine r_iconst (v := 0) hC dL_put_20 rfl ?_
      exact r_zret hf hC rfl rfl (by omega) (by omega) dL_put_21
    · have hf := if_F hf h
      refine r_iconst (v := 1) hC dL_put_16 rfl ?_
      refine r_goto 21 hC dL_put_17 (by decide) ?_
      exact r_zret hf hC rfl rfl (by omega) (by omega) dL_put_21
set_option maxRecDepth 20000 in
set_option maxHeartbeats 1000000 in
theorem c_L_put {l : Launch} (hl : l.stackTraces = false) {G : GG} {Z : ZZ} (hz : ZOk G Z) (hZ : ZM Z) (hzq : ZOk G (swZ Z)) (hZq : ZM (swZ Z)) (v2 : Int32) (M : Mem) (r : Int32) (M' : Mem) (hf : f_L_put v2 M = some (r, M')) : CC (QcI G Z r M') l G Z yL_put cL_put 3 (some .boolean) 8 2 12 [.ref (Z.1 0), .ref (Z.1 400), .int v2] M :=
  CC.of [(0, .ref (Z.1 0)), (1, .ref (Z.1 400)), (2, .int v2)] hl (by decide +kernel) (Nat.le_of_ble_eq_true rfl) rfl (fun _ hC => w_L_put hC hz hZ hzq hZq v2 M hf)
set_option maxRecDepth 20000 in
set_option maxHeartbeats 1000000 in
theorem w_L_alike_b46 {X : XX} {G : GG} {Z : ZZ} {r : Int32} {M' : Mem} {B4 : Nat} {k n : Nat} (hC : Cx X G RL cL_alike (some .boolean) 10 480 2880 5) (hz : ZOk G Z) (hZ : ZM Z) (hzq : ZOk G (swZ Z)) (hZq : ZM (swZ Z)) (v3 : Int32) (k4 : Int32 → Int32 → Mem → Option (Int32 × Mem)) (hk4 : ∀ (k n : Nat) (u2 : Int32) (u3 : Int32) (M : Mem), k ≤ B4 → n ≤ 6 * k → k4 u2 u3 M = some (r, M') → V X G Z M k n (QN X G (QcI G Z r M') 480 2880) 4 [(0, .ref (Z.1 0)), (1, .ref (Z.1 400)), (2, .int u2), (3, .int u3)] []) (hB4 : B4 ≤ 480)  (M : Mem) (hb4 : k + 0 ≤ B4) (hn : n ≤ 6 * k) (hf : f_L_alike_b46 v3 k4 M = some (r, M')) : V X G Z M k n (QN X G (QcI G Z r M') 480 2880) 46 [(0, .ref (Z.1 0)), (1, .ref (Z.1 400)), (3, .int v3)] [] := by
  unfold f_L_alike_b46 at hf
  refine r_iconst (v := 1) hC dL_alike_46 rfl ?_
  refine r_goto 51 hC dL_alike_47 (by decide) ?_
  refine r_istore_n (L' := [(2, .int 1), (0, .ref (Z.1 0)), (1, .ref (Z.1 400)), (3, .int v3)]) hC dL_alike_51 (by decide) rfl ?_
  refine r_iinc (v := v3 + 1) (L' := [(3, .int (v3 + 1)), (2, .int 1), (0, .ref (Z.1 0)), (1, .ref (Z.1 400))]) hC dL_alike_52 3 rfl rfl (by decide) rfl ?_
  refine r_goto 4 hC dL_alike_55 (by decide) ?_
  refine r_L [2, 3, 1, 0] rfl ?_
  exact hk4 _ _ _ _ _ (by omega) (by omega) hf
set_option maxRecDepth 20000 in
set_option maxHeartbeats 1000000 in
theorem w_L_alike_b77 {X : XX} {G : GG} {Z : ZZ} {r : Int32} {M' : Mem} {B60 : Nat} {B77 : Nat} {k n : Nat} (hC : Cx X G RL cL_alike (some .boolean) 10 480 2880 5) (hz : ZOk G Z) (hZ : ZM Z) (hzq : ZOk G (swZ Z)) (hZq : ZM (swZ Z)) (v3 : Int32) (k60 : Int32 → Int32 → Mem → Option (Int32 × Mem)) (hk60 : ∀ (k n : Nat) (u2 : Int32) (u3 : Int32) (M : Mem), k ≤ B60 → n ≤ 6 * k → k60 u2 u3 M = some (r, M') → V X G Z M k n (QN X G (QcI G Z r M') 480 2880) 60 [(0, .ref (Z.1 0)), (1, .ref (Z.1 400)), (2, .int u2), (3, .int u3)] []) (hB60 : B60 ≤ 480) (k77 : Int32 → Int32 → Mem → Option (Int32 × Mem)) (hk77 : ∀ (k n : Nat) (u2 : Int32) (u4 : Int32) (M : Mem), k ≤ B77 → n ≤ 6 * k → k77 u2 u4 M = some (r, M') → V X G Z M k n (QN X G (QcI G Z r M') 480 2880) 77 [(0, .ref (Z.1 0)), (1, .ref (Z.1 400)), (2, .int u2), (3, .int v3), (4, .int u4)] []) (hB77 : B77 ≤ 480) (v2 : Int32) (v4 : Int32) (M : Mem) (hb60 : k + 1 ≤ B60) (hn : n ≤ 6 * k) (hb77 : k + 5 ≤ B77) (hf : f_L_alike_b77 v3 k60 k77 v2 v4 M = some (r, M')) : V X G Z M k n (QN X G (QcI G Z r M') 480 2880) 77 [(0, .ref (Z.1 0)), (1, .ref (Z.1 400)), (2, .int v2), (3, .int v3), (4, .int v4)] [] := by
  unfold f_L_alike_b77 at hf
  refine r_iload hC dL_alike_77 4 rfl ?_
  refine r_aload_n hC dL_alike_79 0 rfl ?_
  refine r_bipush (v := 7) hC dL_alike_80 rfl ?_
  refine r_wcall [.int v4] (fun r M1 h => c_L_tryAbout (cx_st hC) hz hZ 7 _ r M1 h) hf cs_L_115 hC rfl rfl (by decide) (by decide) (Nat.le_of_ble_eq_true rfl) (by omega) (by omega) dL_alike_82 (fun x11 M12 hf => ?_)
  refine r_icmp_ge 142 hC dL_alike_85 (by decide) (fun h => ?_) (fun h => ?_)
  · have hf := if_T hf h
    refine r_iinc (v := v3 + 1) (L' := [(3, .int (v3 + 1)), (0, .ref (Z.1 0)), (1, .ref (Z.1 400)), (2, .int v2), (4, .int v4)]) hC dL_alike_142 3 rfl rfl (by decide) rfl ?_
    refine r_goto 60 hC dL_alike_145 (by decide) ?_
    refine r_L [1, 2, 3, 0] rfl ?_
    exact hk60 _ _ _ _ _ (by omega) (by omega) hf
  · have hf := if_F hf h
    refine r_iload_n hC dL_alike_88 2 rfl ?_
    refine r_if_eq 134 hC dL_alike_89 (by decide) (fun h => ?_) (fun h => ?_)
    · have hf := if_T hf h
      refine r_iconst (v := 0) hC dL_alike_134 rfl ?_
      refine r_istore_n (L' := [(2, .int 0), (0, .ref (Z.1 0)), (1, .ref (Z.1 400)), (3, .int v3), (4, .int v4)]) hC dL_alike_135 (by decide) rfl ?_
      refine r_iinc (v := v4 + 1) (L' := [(4, .int (v4 + 1)), (2, .int 0), (0, .ref (Z.1 0)), (1, .ref (Z.1 400)), (3, .int v3)]) hC dL_alike_136 4 rfl rfl (by decide) rfl ?_
      refine r_goto 77 hC dL_alike_139 (by decide) ?_
      refine r_L [2, 3, 1, 4, 0] rfl ?_
      exact hk77 _ _ _ _ _ (by omega) (by omega) hf
    · have hf := if_F hf h
      refine r_aload_n hC dL_alike_92 0 rfl ?_
      refine r_iload_n hC dL_alike_93 3 rfl ?_
      refine r_iload hC dL_alike_94 4 rfl ?_
      refine r_iconst (v := 0) hC dL_alike_96 rfl ?_
      refine r_wcall [] (fun r M1 h => c_L_tryCell (cx_st hC) hz hZ v3 v4 0 _ r M1 h) hf cs_L_127 hC rfl rfl (by decide) (by decide) (Nat.le_of_ble_eq_true rfl) (by omega) (by omega) dL_alike_97 (fun x13 M14 hf => ?_)
      refine r_aload_n hC dL_alike_100 1 rfl ?_
      refine r_iload_n hC dL_alike_101 3 rfl ?_
      refine r_iload hC dL_alike_102 4 rfl ?_
      refine r_iconst (v := 0) hC dL_alike_104 rfl ?_
      refine V_sw ?_
      refine r_wcall [.int x13] (fun r M1 h => c_L_tryCell (cx_st hC) hzq hZq v3 v4 0 _ r M1 h) hf cs_L_127 hC rfl rfl (by decide) (by decide) (Nat.le_of_ble_eq_true rfl) (by omega) (by omega) dL_alike_105 (fun x15 M16 hf => ?_)
      refine V_sb ?_
      refine r_icmp_ne 134 hC dL_alike_108 (by decide) (fun h => ?_) (fun h => ?_)
      · have hf := if_F hf h
        refine r_iconst (v := 0) hC dL_alike_134 rfl ?_
        refine r_istore_n (L' := [(2, .int 0), (0, .ref (Z.1 0)), (1, .ref (Z.1 400)), (3, .int v3), (4, .int v4)]) hC dL_alike_135 (by decide) rfl ?_
        refine r_iinc (v := v4 + 1) (L' := [(4, .int (v4 + 1)), (2, .int 0), (0, .ref (Z.1 0)), (1, .ref (Z.1 400)), (3, .int v3)]) hC dL_alike_136 4 rfl rfl (by decide) rfl ?_
        refine r_goto 77 hC dL_alike_139 (by decide) ?_
        refine r_L [2, 3, 1, 4, 0] rfl ?_
        exact hk77 _ _ _ _ _ (by omega) (by omega) hf
      · have hf := if_T hf h
        refine r_aload_n hC dL_alike_111 0 rfl ?_
        refine r_iload_n hC dL_alike_112 3 rfl ?_
        refine r_iload hC dL_alike_113 4 rfl ?_
        refine r_iconst (v := 1) hC dL_alike_115 rfl ?_
        refine r_wcall [] (fun r M1 h => c_L_tryCell (cx_st hC) hz hZ v3 v4 1 _ r M1 h) hf cs_L_127 hC rfl rfl (by decide) (by decide) (Nat.le_of_ble_eq_true rfl) (by omega) (by omega) dL_alike_116 (fun x17 M18 hf => ?_)
        refine r_aload_n hC dL_alike_119 1 rfl ?_
        refine r_iload_n hC dL_alike_120 3 rfl ?_
        refine r_iload hC dL_alike_121 4 rfl ?_
        refine r_iconst (v := 1) hC dL_alike_123 rfl ?_
        refine V_sw ?_
        refine r_wcall [.int x17] (fun r M1 h => c_L_tryCell (cx_st hC) hzq hZq v3 v4 1 _ r M1 h) hf cs_L_127 hC rfl rfl (by decide) (by decide) (Nat.le_of_ble_eq_true rfl) (by omega) (by omega) dL_alike_124 (fun x19 M20 hf => ?_)
        refine V_sb ?_
        refine r_icmp_ne 134 hC dL_alike_127 (by decide) (fun h => ?_) (fun h => ?_)
        · have hf := if_F hf h
          refine r_iconst (v := 0) hC dL_alike_134 rfl ?_
          refine r_istore_n (L' := [(2, .int 0), (0, .ref (Z.1 0)), (1, .ref (Z.1 400)), (3, .int v3), (4, .int v4)]) hC dL_alike_135 (by decide) rfl ?_
          refine r_iinc (v := v4 + 1) (L' := [(4, .int (v4 + 1)), (2, .int 0), (0, .ref (Z.1 0)), (1, .ref (Z.1 400)), (3, .int v3)]) hC dL_alike_136 4 rfl rfl (by decide) rfl ?_
          refine r_goto 77 hC dL_alike_139 (by decide) ?_
          refine r_L [2, 3, 1, 4, 0] rfl ?_
          exact hk77 _ _ _ _ _ (by omega) (by omega) hf
        · have hf := if_T hf h
          refine r_iconst (v := 1) hC dL_alike_130 rfl ?_
          refine r_goto 135 hC dL_alike_131 (by decide) ?_
          refine r_istore_n (L' := [(2, .int 1), (0, .ref (Z.1 0)), (1, .ref (Z.1 400)), (3, .int v3), (4, .int v4)]) hC dL_alike_135 (by decide) rfl ?_
          refine r_iinc (v := v4 + 1) (L' := [(4, .int (v4 + 1)), (2, .int 1), (0, .ref (Z.1 0)), (1, .ref (Z.1 400)), (3, .int v3)]) hC dL_alike_136 4 rfl rfl (by decide) rfl ?_
          refine r_goto 77 hC dL_alike_139 (by decide) ?_
          refine r_L [2, 3, 1, 4, 0] rfl ?_
          exact hk77 _ _ _ _ _ (by omega) (by omega) hf
set_option maxRecDepth 20000 in
set_option maxHeartbeats 1000000 in
theorem w_L_alike_b60 {X : XX} {G : GG} {Z : ZZ} {r : Int32} {M' : Mem} {B60 : Nat} {k n : Nat} (hC : Cx X G RL cL_alike (some .boolean) 10 480 2880 5) (hz : ZOk G Z) (hZ : ZM Z) (hzq : ZOk G (swZ Z)) (hZq : ZM (swZ Z))    (k60 : Int32 → Int32 → Mem → Option (Int32 × Mem)) (hk60 : ∀ (k n : Nat) (u2 : Int32) (u3 : Int32) (M : Mem), k ≤ B60 → n ≤ 6 * k → k60 u2 u3 M = some (r, M') → V X G Z M k n (QN X G (QcI G Z r M') 480 2880) 60 [(0, .ref (Z.1 0)), (1, .ref (Z.1 400)), (2, .int u2), (3, .int u3)] []) (hB60 : B60 ≤ 480) (v2 : Int32) (v3 : Int32) (M : Mem) (hb : k + 1 ≤ 480) (hn : n ≤ 6 * k) (hb60 : k + 87 ≤ B60) (hf : f_L_alike_b60 k60 v2 v3 M = some (r, M')) : V X G Z M k n (QN X G (QcI G Z r M') 480 2880) 60 [(0, .ref (Z.1 0)), (1, .ref (Z.1 400)), (2, .int v2), (3, .int v3)] [] := by
  unfold f_L_alike_b60 at hf
  refine r_iload_n hC dL_alike_60 3 rfl ?_
  refine r_aload_n hC dL_alike_61 0 rfl ?_
  refine r_bipush (v := 6) hC dL_alike_62 rfl ?_
  refine r_wcall [.int v3] (fun r M1 h => c_L_tryAbout (cx_st hC) hz hZ 6 _ r M1 h) hf cs_L_115 hC rfl rfl (by decide) (by decide) (Nat.le_of_ble_eq_true rfl) (by omega) (by omega) dL_alike_64 (fun x9 M10 hf => ?_)
  refine r_icmp_ge 148 hC dL_alike_67 (by decide) (fun h => ?_) (fun h => ?_)
  · have hf := if_T hf h
    refine r_iload_n hC dL_alike_148 2 rfl ?_
    have hne := if_K hf
    have hf := if_V hf
    exact r_zret hf hC rfl (nar_bool hne).1 (by omega) (by omega) dL_alike_149
  · have hf := if_F hf h
    refine r_iload_n hC dL_alike_70 2 rfl ?_
    refine r_if_eq 148 hC dL_alike_71 (by decide) (fun h => ?_) (fun h => ?_)
    · have hf := if_T hf h
      refine r_iload_n hC dL_alike_148 2 rfl ?_
      have hne := if_K hf
      have hf := if_V hf
      exact r_zret hf hC rfl (nar_bool hne).1 (by omega) (by omega) dL_alike_149
    · have hf := if_F hf h
      refine r_iconst (v := 0) hC dL_alike_74 rfl ?_
      refine r_istore (L' := [(4, .int 0), (0, .ref (Z.1 0)), (1, .ref (Z.1 400)), (2, .int v2), (3, .int v3)]) hC dL_alike_75 (by decide) rfl ?_
      refine r_L [1, 2, 3, 4, 0] rfl ?_
      exact lq2_idf (P := fun j (u2 : Int32) (u4 : Int32) (M : Mem) => ∀ k n : Nat, n ≤ 6 * k → k + 5 * j ≤ 480 → k + (5 * j + 1) ≤ B60 → V X G Z M k n (QN X G (QcI G Z r M') 480 2880) 77 [(0, .ref (Z.1 0)), (1, .ref (Z.1 400)), (2, .int u2), (3, .int v3), (4, .int u4)] []) (fun j kk hkk u2 u4 M hf k n hn hq0 hq1 => w_L_alike_b77 hC hz hZ hzq hZq v3 k60 hk60 (by omega) kk (fun k' n' u2 u4 M hB hn' hf' => hkk u2 u4 M hf' k' n' (by omega) (by omega) (by omega)) (k := k) (n := n) (B77 := k + 5) (by omega) u2 u4 M (by omega) (by omega) (by omega) hf) 17 _ _ _ hf _ _ (by omega) (by omega) (by omega)
set_option maxRecDepth 20000 in
set_option maxHeartbeats 1000000 in
theorem w_L_alike_b58 {X : XX} {G : GG} {Z : ZZ} {r : Int32} {M' : Mem}  {k n : Nat} (hC : Cx X G RL cL_alike (some .boolean) 10 480 2880 5) (hz : ZOk G Z) (hZ : ZM Z) (hzq : ZOk G (swZ Z)) (hZq : ZM (swZ Z)) (v2 : Int32)    (M : Mem) (hb : k + 436 ≤ 480) (hn : n ≤ 6 * k) (hf : f_L_alike_b58 v2 M = some (r, M')) : V X G Z M k n (QN X G (QcI G Z r M') 480 2880) 58 [(0, .ref (Z.1 0)), (1, .ref (Z.1 400)), (2, .int v2)] [] := by
  unfold f_L_alike_b58 at hf
  refine r_iconst (v := 0) hC dL_alike_58 rfl ?_
  refine r_istore_n (L' := [(3, .int 0), (0, .ref (Z.1 0)), (1, .ref (Z.1 400)), (2, .int v2)]) hC dL_alike_59 (by decide) rfl ?_
  refine r_L [1, 2, 3, 0] rfl ?_
  exact lq2_idf (P := fun j (u2 : Int32) (u3 : Int32) (M : Mem) => ∀ k n : Nat, n ≤ 6 * k → k + (87 * j + 1) ≤ 480 → V X G Z M k n (QN X G (QcI G Z r M') 480 2880) 60 [(0, .ref (Z.1 0)), (1, .ref (Z.1 400)), (2, .int u2), (3, .int u3)] []) (fun j kk hkk u2 u3 M hf k n hn hq0 => w_L_alike_b60 hC hz hZ hzq hZq   kk (fun k' n' u2 u3 M hB hn' hf' => hkk u2 u3 M hf' k' n' (by omega) (by omega)) (k := k) (n := n) (B60 := k + 87) (by omega) u2 u3 M (by omega) (by omega) (by omega) hf) 5 _ _ _ hf _ _ (by omega) (by omega)
set_option maxRecDepth 20000 in
set_option maxHeartbeats 1000000 in
theorem w_L_alike_b4 {X : XX} {G : GG} {Z : ZZ} {r : Int32} {M' : Mem} {B4 : Nat} {k n : Nat} (hC : Cx X G RL cL_alike (some .boolean) 10 480 2880 5) (hz : ZOk G Z) (hZ : ZM Z) (hzq : ZOk G (swZ Z)) (hZq : ZM (swZ Z))    (k4 : Int32 → Int32 → Mem → Option (Int32 × Mem)) (hk4 : ∀ (k n : Nat) (u2 : Int32) (u3 : Int32) (M : Mem), k ≤ B4 → n ≤ 6 * k → k4 u2 u3 M = some (r, M') → V X G Z M k n (QN X G (QcI G Z r M') 480 2880) 4 [(0, .ref (Z.1 0)), (1, .ref (Z.1 400)), (2, .int u2), (3, .int u3)] []) (hB4 : B4 ≤ 480) (v2 : Int32) (v3 : Int32) (M : Mem) (hb : k + 436 ≤ 480) (hn : n ≤ 6 * k) (hb4 : k + 4 ≤ B4) (hf : f_L_alike_b4 k4 v2 v3 M = some (r, M')) : V X G Z M k n (QN X G (QcI G Z r M') 480 2880) 4 [(0, .ref (Z.1 0)), (1, .ref (Z.1 400)), (2, .int v2), (3, .int v3)] [] := by
  unfold f_L_alike_b4 at hf
  refine r_iload_n hC dL_alike_4 3 rfl ?_
  refine r_bipush (v := 10) hC dL_alike_5 rfl ?_
  refine r_icmp_ge 58 hC dL_alike_7 (by decide) (fun h => ?_) (fun h => ?_)
  · have hf := if_T hf h
    refine r_L [0, 1, 2] rfl ?_
    exact w_L_alike_b58 hC hz hZ hzq hZq v2   _ (by omega) (by omega) hf
  · have hf := if_F hf h
    refine r_iload_n hC dL_alike_10 2 rfl ?_
    refine r_if_eq 50 hC dL_alike_11 (by decide) (fun h => ?_) (fun h => ?_)
    · have hf := if_T hf h
      refine r_iconst (v := 0) hC dL_alike_50 rfl ?_
      refine r_istore_n (L' := [(2, .int 0), (0, .ref (Z.1 0)), (1, .ref (Z.1 400)), (3, .int v3)]) hC dL_alike_51 (by decide) rfl ?_
      refine r_iinc (v := v3 + 1) (L' := [(3, .int (v3 + 1)), (2, .int 0), (0, .ref (Z.1 0)), (1, .ref (Z.1 400))]) hC dL_alike_52 3 rfl rfl (by decide) rfl ?_
      refine r_goto 4 hC dL_alike_55 (by decide) ?_
      refine r_L [2, 3, 1, 0] rfl ?_
      exact hk4 _ _ _ _ _ (by omega) (by omega) hf
    · have hf := if_F hf h
      refine r_aload_n hC dL_alike_14 0 rfl ?_
      refine r_iload_n hC dL_alike_15 3 rfl ?_
      refine r_wcall [] (fun r M1 h => c_L_tryAbout (cx_st hC) hz hZ v3 _ r M1 h) hf cs_L_115 hC rfl rfl (by decide) (by decide) (Nat.le_of_ble_eq_true rfl) (by omega) (by omega) dL_alike_16 (fun x1 M2 hf => ?_)
      refine r_aload_n hC dL_alike_19 1 rfl ?_
      refine r_iload_n hC dL_alike_20 3 rfl ?_
      refine V_sw ?_
      refine r_wcall [.int x1] (fun r M1 h => c_L_tryAbout (cx_st hC) hzq hZq v3 _ r M1 h) hf cs_L_115 hC rfl rfl (by decide) (by decide) (Nat.le_of_ble_eq_true rfl) (by omega) (by omega) dL_alike_21 (fun x3 M4 hf => ?_)
      refine V_sb ?_
      refine r_icmp_ne 50 hC dL_alike_24 (by decide) (fun h => ?_) (fun h => ?_)
      · have hf := if_F hf h
        refine r_iconst (v := 0) hC dL_alike_50 rfl ?_
        refine r_istore_n (L' := [(2, .int 0), (0, .ref (Z.1 0)), (1, .ref (Z.1 400)), (3, .int v3)]) hC dL_alike_51 (by decide) rfl ?_
        refine r_iinc (v := v3 + 1) (L' := [(3, .int (v3 + 1)), (2, .int 0), (0, .ref (Z.1 0)), (1, .ref (Z.1 400))]) hC dL_alike_52 3 rfl rfl (by decide) rfl ?_
        refine r_goto 4 hC dL_alike_55 (by decide) ?_
        refine r_L [2, 3, 1, 0] rfl ?_
        exact hk4 _ _ _ _ _ (by omega) (by omega) hf
      · have hf := if_T hf h
        refine r_iload_n hC dL_alike_27 3 rfl ?_
        refine r_bipush (v := 7) hC dL_alike_28 rfl ?_
        refine r_icmp_gt 46 hC dL_alike_30 (by decide) (fun h => ?_) (fun h => ?_)
        · have hf := if_T hf h
          refine r_L [0, 1, 3] rfl ?_
          exact w_L_alike_b46 hC hz hZ hzq hZq v3 k4 hk4 (by omega)  _ (by omega) (by omega) hf
        · have hf := if_F hf h
          refine r_aload_n hC dL_alike_33 0 rfl ?_
          refine r_iload_n hC dL_alike_34 3 rfl ?_
          refine r_wcall [] (fun r M1 h => c_L_tryWhole (cx_st hC) hz hZ v3 _ r M1 h) hf cs_L_124 hC rfl rfl (by decide) (by decide) (Nat.le_of_ble_eq_true rfl) (by omega) (by omega) dL_alike_35 (fun x5 M6 hf => ?_)
          refine r_aload_n hC dL_alike_38 1 rfl ?_
          refine r_iload_n hC dL_alike_39 3 rfl ?_
          refine V_sw ?_
          refine r_wcall [.int x5] (fun r M1 h => c_L_tryWhole (cx_st hC) hzq hZq v3 _ r M1 h) hf cs_L_124 hC rfl rfl (by decide) (by decide) (Nat.le_of_ble_eq_true rfl) (by omega) (by omega) dL_alike_40 (fun x7 M8 hf => ?_)
          refine V_sb ?_
          refine r_icmp_ne 50 hC dL_alike_43 (by decide) (fun h => ?_) (fun h => ?_)
          · have hf := if_F hf h
            refine r_iconst (v := 0) hC dL_alike_50 rfl ?_
            refine r_istore_n (L' := [(2, .int 0), (0, .ref (Z.1 0)), (1, .ref (Z.1 400)), (3, .int v3)]) hC dL_alike_51 (by decide) rfl ?_
            refine r_iinc (v := v3 + 1) (L' := [(3, .int (v3 + 1)), (2, .int 0), (0, .ref (Z.1 0)), (1, .ref (Z.1 400))]) hC dL_alike_52 3 rfl rfl (by decide) rfl ?_
            refine r_goto 4 hC dL_alike_55 (by decide) ?_
            refine r_L [2, 3, 1, 0] rfl ?_
            exact hk4 _ _ _ _ _ (by omega) (by omega) hf
          · have hf := if_T hf h
            refine r_L [0, 1, 3] rfl ?_
            exact w_L_alike_b46 hC hz hZ hzq hZq v3 k4 hk4 (by omega)  _ (by omega) (by omega) hf
set_option maxRecDepth 20000 in
set_option maxHeartbeats 1000000 in
theorem w_L_alike {X : XX} {G : GG} {Z : ZZ} (hC : Cx X G RL cL_alike (some .boolean) 10 480 2880 5) (hz : ZOk G Z) (hZ : ZM Z) (hzq : ZOk G (swZ Z)) (hZq : ZM (swZ Z))  (M : Mem) {r : Int32} {M' : Mem} (hf : f_L_alike  M = some (r, M')) : V X G Z M 0 0 (QN X G (QcI G Z r M') 480 2880) 0 [(0, .ref (Z.1 0)), (1, .ref (Z.1 400))] [] := by
  have hb : 0 + 480 ≤ 480 := Nat.le_refl _
  have hn : 0 ≤ 6 * 0 := Nat.le_refl _
  unfold f_L_alike at hf
  refine r_iconst (v := 1) hC dL_alike_0 rfl ?_
  refine r_istore_n (L' := [(2, .int 1), (0, .ref (Z.1 0)), (1, .ref (Z.1 400))]) hC dL_alike_1 (by decide) rfl ?_
  refine r_iconst (v := 0) hC dL_alike_2 rfl ?_
  refine r_istore_n (L' := [(3, .int 0), (2, .int 1), (0, .ref (Z.1 0)), (1, .ref (Z.1 400))]) hC dL_alike_3 (by decide) rfl ?_
  refine r_L [2, 3, 1, 0] rfl ?_
  exact lq2_idf (P := fun j (u2 : Int32) (u3 : Int32) (M : Mem) => ∀ k n : Nat, n ≤ 6 * k → k + (4 * j + 436) ≤ 480 → V X G Z M k n (QN X G (QcI G Z r M') 480 2880) 4 [(0, .ref (Z.1 0)), (1, .ref (Z.1 400)), (2, .int u2), (3, .int u3)] []) (fun j kk hkk u2 u3 M hf k n hn hq0 => w_L_alike_b4 hC hz hZ hzq hZq   kk (fun k' n' u2 u3 M hB hn' hf' => hkk u2 u3 M hf' k' n' (by omega) (by omega)) (k := k) (n := n) (B4 := k + 4) (by omega) u2 u3 M (by omega) (by omega) (by omega) hf) 11 _ _ _ hf _ _ (by omega) (by omega)
set_option maxRecDepth 20000 in
set_option maxHeartbeats 1000000 in
theorem c_L_alike {l : Launch} (hl : l.stackTraces = false) {G : GG} {Z : ZZ} (hz : ZOk G Z) (hZ : ZM Z) (hzq : ZOk G (swZ Z)) (hZq : ZM (swZ Z))  (M : Mem) (r : Int32) (M' : Mem) (hf : f_L_alike  M = some (r, M')) : CC (QcI G Z r M') l G Z yL_alike cL_alike 5 (some .boolean) 10 480 2880 [.ref (Z.1 0), .ref (Z.1 400)] M :=
  CC.of [(0, .ref (Z.1 0)), (1, .ref (Z.1 400))] hl (by decide +kernel) (Nat.le_of_ble_eq_true rfl) rfl (fun _ hC => w_L_alike hC hz hZ hzq hZq  M hf)
set_option maxRecDepth 20000 in
set_option maxHeartbeats 1000000 in
theorem w_L_refuses_b346 {X : XX} {G : GG} {Z : ZZ} {r : Int32} {M' : Mem}  {k n : Nat} (hC : Cx X G RL cL_refuses (some .boolean) 10 42 252 4) (hz : ZOk G Z) (hZ : ZM Z) (v1 : Int32) (v2 : Int32)    (M : Mem) (hb : k + 16 ≤ 42) (hn : n ≤ 6 * k) (hf : f_L_refuses_b346 v1 v2 M = some (r, M')) : V X G Z M k n (QN X G (QcI G Z r M') 42 252) 346 [(0, .ref (Z.1 0)), (1, .int v1), (2, .int v2)] [] := by
  unfold f_L_refuses_b346 at hf
  refine r_aload_n hC dL_refuses_346 0 rfl ?_
  refine r_iconst (v := 0) hC dL_refuses_347 rfl ?_
  refine r_iload_n hC dL_refuses_348 2 rfl ?_
  refine r_iconst (v := 4) hC dL_refuses_349 rfl ?_
  refine r_wcall [] (fun r M1 h => c_L_tryNote (cx_st hC) hz hZ 0 v2 4 _ r M1 h) hf cs_L_155 hC rfl rfl (by decide) (by decide) (Nat.le_of_ble_eq_true rfl) (by omega) (by omega) dL_refuses_350 (fun x53 M54 hf => ?_)
  refine r_sipush (v := (-1001)) hC dL_refuses_353 rfl ?_
  refine r_icmp_ne 550 hC dL_refuses_356 (by decide) (fun h => ?_) (fun h => ?_)
  · have hf := if_F hf h
    refine r_iconst (v := 0) hC dL_refuses_550 rfl ?_
    exact r_zret hf hC rfl rfl (by omega) (by omega) dL_refuses_551
  · have hf := if_T hf h
    refine r_aload_n hC dL_refuses_359 0 rfl ?_
    refine r_iconst (v := 0) hC dL_refuses_360 rfl ?_
    refine r_iconst (v := 0) hC dL_refuses_361 rfl ?_
    refine r_iconst (v := 4) hC dL_refuses_362 rfl ?_
    refine r_wcall [] (fun r M1 h => c_L_tryNote (cx_st hC) hz hZ 0 0 4 _ r M1 h) hf cs_L_155 hC rfl rfl (by decide) (by decide) (Nat.le_of_ble_eq_true rfl) (by omega) (by omega) dL_refuses_363 (fun x55 M56 hf => ?_)
    refine r_sipush (v := (-1002)) hC dL_refuses_366 rfl ?_
    refine r_icmp_ne 550 hC dL_refuses_369 (by decide) (fun h => ?_) (fun h => ?_)
    · have hf := if_F hf h
      refine r_iconst (v := 0) hC dL_refuses_550 rfl ?_
      exact r_zret hf hC rfl rfl (by omega) (by omega) dL_refuses_551
    · have hf := if_T hf h
      refine r_aload_n hC dL_refuses_372 0 rfl ?_
      refine r_iconst (v := 2) hC dL_refuses_373 rfl ?_
      refine r_iconst (v := 0) hC dL_refuses_374 rfl ?_
      refine r_iconst (v := 5) hC dL_refuses_375 rfl ?_
      refine r_wcall [] (fun r M1 h => c_L_tryHand (cx_st hC) hz hZ 2 0 5 _ r M1 h) hf cs_L_158 hC rfl rfl (by decide) (by decide) (Nat.le_of_ble_eq_true rfl) (by omega) (by omega) dL_refuses_376 (fun x57 M58 hf => ?_)
      refine r_sipush (v := (-1001)) hC dL_refuses_379 rfl ?_
      refine r_icmp_ne 550 hC dL_refuses_382 (by decide) (fun h => ?_) (fun h => ?_)
      · have hf := if_F hf h
        refine r_iconst (v := 0) hC dL_refuses_550 rfl ?_
        exact r_zret hf hC rfl rfl (by omega) (by omega) dL_refuses_551
      · have hf := if_T hf h
        refine r_aload_n hC dL_refuses_385 0 rfl ?_
        refine r_iconst (v := 0) hC dL_refuses_386 rfl ?_
        refine r_iconst (v := 0) hC dL_refuses_387 rfl ?_
        refine r_iconst (v := 5) hC dL_refuses_388 rfl ?_
        refine r_wcall [] (fun r M1 h => c_L_tryHand (cx_st hC) hz hZ 0 0 5 _ r M1 h) hf cs_L_158 hC rfl rfl (by decide) (by decide) (Nat.le_of_ble_eq_true rfl) (by omega) (by omega) dL_refuses_389 (fun x59 M60 hf => ?_)
        refine r_sipush (v := (-1002)) hC dL_refuses_392 rfl ?_
        refine r_icmp_ne 550 hC dL_refuses_395 (by decide) (fun h => ?_) (fun h => ?_)
        · have hf := if_F hf h
          refine r_iconst (v := 0) hC dL_refuses_550 rfl ?_
          exact r_zret hf hC rfl rfl (by omega) (by omega) dL_refuses_551
        · have hf := if_T hf h
          refine r_aload_n hC dL_refuses_398 0 rfl ?_
          refine r_iload_n hC dL_refuses_399 2 rfl ?_
          refine r_iconst (v := 5) hC dL_refuses_400 rfl ?_
          refine r_wcall [] (fun r M1 h => c_L_tryBeat (cx_st hC) hz hZ v2 5 _ r M1 h) hf cs_L_161 hC rfl rfl (by decide) (by decide) (Nat.le_of_ble_eq_true rfl) (by omega) (by omega) dL_refuses_401 (fun x61 M62 hf => ?_)
          refine r_sipush (v := (-1001)) hC dL_refuses_404 rfl ?_
          refine r_icmp_ne 550 hC dL_refuses_407 (by decide) (fun h => ?_) (fun h => ?_)
          · have hf := if_F hf h
            refine r_iconst (v := 0) hC dL_refuses_550 rfl ?_
            exact r_zret hf hC rfl rfl (by omega) (by omega) dL_refuses_551
          · have hf := if_T hf h
            refine r_aload_n hC dL_refuses_410 0 rfl ?_
            refine r_iconst (v := 0) hC dL_refuses_411 rfl ?_
            refine r_iconst (v := 5) hC dL_refuses_412 rfl ?_
            refine r_wcall [] (fun r M1 h => c_L_tryBeat (cx_st hC) hz hZ 0 5 _ r M1 h) hf cs_L_161 hC rfl rfl (by decide) (by decide) (Nat.le_of_ble_eq_true rfl) (by omega) (by omega) dL_refuses_413 (fun x63 M64 hf => ?_)
            refine r_sipush (v := (-1002)) hC dL_refuses_416 rfl ?_
            refine r_icmp_ne 550 hC dL_refuses_419 (by decide) (fun h => ?_) (fun h => ?_)
            · have hf := if_F hf h
              refine r_iconst (v := 0) hC dL_refuses_550 rfl ?_
              exact r_zret hf hC rfl rfl (by omega) (by omega) dL_refuses_551
            · have hf := if_T hf h
              refine r_aload_n hC dL_refuses_422 0 rfl ?_
              refine r_bipush (v := 8) hC dL_refuses_423 rfl ?_
              refine r_wcall [] (fun r M1 h => c_L_tryWhole (cx_st hC) hz hZ 8 _ r M1 h) hf cs_L_124 hC rfl rfl (by decide) (by decide) (Nat.le_of_ble_eq_true rfl) (by omega) (by omega) dL_refuses_425 (fun x65 M66 hf => ?_)
              refine r_sipush (v := (-1002)) hC dL_refuses_428 rfl ?_
              refine r_icmp_ne 550 hC dL_refuses_431 (by decide) (fun h => ?_) (fun h => ?_)
              · have hf := if_F hf h
                refine r_iconst (v := 0) hC dL_refuses_550 rfl ?_
                exact r_zret hf hC rfl rfl (by omega) (by omega) dL_refuses_551
              · have hf := if_T hf h
                refine r_aload_n hC dL_refuses_434 0 rfl ?_
                refine r_iconst (v := 0) hC dL_refuses_435 rfl ?_
                refine r_iconst (v := 0) hC dL_refuses_436 rfl ?_
                refine r_iconst (v := 0) hC dL_refuses_437 rfl ?_
                refine r_wcall [] (fun r M1 h => c_L_tryWhatIf (cx_st hC) hz hZ 0 0 0 _ r M1 h) hf cs_L_164 hC rfl rfl (by decide) (by decide) (Nat.le_of_ble_eq_true rfl) (by omega) (by omega) dL_refuses_438 (fun x67 M68 hf => ?_)
                refine r_sipush (v := (-1002)) hC dL_refuses_441 rfl ?_
                refine r_icmp_ne 550 hC dL_refuses_444 (by decide) (fun h => ?_) (fun h => ?_)
                · have hf := if_F hf h
                  refine r_iconst (v := 0) hC dL_refuses_550 rfl ?_
                  exact r_zret hf hC rfl rfl (by omega) (by omega) dL_refuses_551
                · have hf := if_T hf h
                  refine r_aload_n hC dL_refuses_447 0 rfl ?_
                  refine r_iconst (v := 0) hC dL_refuses_448 rfl ?_
                  refine r_iconst (v := 1) hC dL_refuses_449 rfl ?_
                  refine r_bipush (v := 8) hC dL_refuses_450 rfl ?_
                  refine r_wcall [] (fun r M1 h => c_L_tryWhatIf (cx_st hC) hz hZ 0 1 8 _ r M1 h) hf cs_L_164 hC rfl rfl (by decide) (by decide) (Nat.le_of_ble_eq_true rfl) (by omega) (by omega) dL_refuses_452 (fun x69 M70 hf => ?_)
                  refine r_sipush (v := (-1002)) hC dL_refuses_455 rfl ?_
                  refine r_icmp_ne 550 hC dL_refuses_458 (by decide) (fun h => ?_) (fun h => ?_)
                  · have hf := if_F hf h
                    refine r_iconst (v := 0) hC dL_refuses_550 rfl ?_
                    exact r_zret hf hC rfl rfl (by omega) (by omega) dL_refuses_551
                  · have hf := if_T hf h
                    refine r_aload_n hC dL_refuses_461 0 rfl ?_
                    refine r_iload_n hC dL_refuses_462 1 rfl ?_
                    refine r_wcall [] (fun r M1 h => c_L_tryBestTransposition (cx_st hC) hz hZ v1 _ r M1 h) hf cs_L_167 hC rfl rfl (by decide) (by decide) (Nat.le_of_ble_eq_true rfl) (by omega) (by omega) dL_refuses_463 (fun x71 M72 hf => ?_)
                    refine r_sipush (v := (-1001)) hC dL_refuses_466 rfl ?_
                    refine r_icmp_ne 550 hC dL_refuses_469 (by decide) (fun h => ?_) (fun h => ?_)
                    · have hf := if_F hf h
                      refine r_iconst (v := 0) hC dL_refuses_550 rfl ?_
                      exact r_zret hf hC rfl rfl (by omega) (by omega) dL_refuses_551
                    · have hf := if_T hf h
                      refine r_aload_n hC dL_refuses_472 0 rfl ?_
                      refine r_iconst (v := 4) hC dL_refuses_473 rfl ?_
                      refine r_lconst (v := 0) hC dL_refuses_474 rfl ?_
                      refine r_wcall [] (fun r M1 h => c_L_tryScript (cx_st hC) hz hZ 4 0 _ r M1 h) hf cs_L_170 hC rfl rfl (by decide) (by decide) (Nat.le_of_ble_eq_true rfl) (by omega) (by omega) dL_refuses_475 (fun x73 M74 hf => ?_)
                      refine r_sipush (v := (-1002)) hC dL_refuses_478 rfl ?_
                      refine r_icmp_ne 550 hC dL_refuses_481 (by decide) (fun h => ?_) (fun h => ?_)
                      · have hf := if_F hf h
                        refine r_iconst (v := 0) hC dL_refuses_550 rfl ?_
                        exact r_zret hf hC rfl rfl (by omega) (by omega) dL_refuses_551
                      · have hf := if_T hf h
                        refine r_aload_n hC dL_refuses_484 0 rfl ?_
                        refine r_iconst (v := 1) hC dL_refuses_485 rfl ?_
                        refine r_ldc2 (v := 100000) hC dL_refuses_486 kw_L_174 ?_
                        refine r_wcall [] (fun r M1 h => c_L_tryScript (cx_st hC) hz hZ 1 100000 _ r M1 h) hf cs_L_170 hC rfl rfl (by decide) (by decide) (Nat.le_of_ble_eq_true rfl) (by omega) (by omega) dL_refuses_489 (fun x75 M76 hf => ?_)
                        refine r_sipush (v := (-1002)) hC dL_refuses_492 rfl ?_
                        refine r_icmp_ne 550 hC dL_refuses_495 (by decide) (fun h => ?_) (fun h => ?_)
                        · have hf := if_F hf h
                          refine r_iconst (v := 0) hC dL_refuses_550 rfl ?_
                          exact r_zret hf hC rfl rfl (by omega) (by omega) dL_refuses_551
                        · have hf := if_T hf h
                          refine r_aload_n hC dL_refuses_498 0 rfl ?_
                          refine r_lconst (v := 1) hC dL_refuses_499 rfl ?_
                          refine r_bipush (v := 41) hC dL_refuses_500 rfl ?_
                          refine r_wcall [] (fun r M1 h => c_L_trySimulate (cx_st hC) hz hZ 1 41 _ r M1 h) hf cs_L_176 hC rfl rfl (by decide) (by decide) (Nat.le_of_ble_eq_true rfl) (by omega) (by omega) dL_refuses_502 (fun x77 M78 hf => ?_)
                          refine r_sipush (v := (-1002)) hC dL_refuses_505 rfl ?_
                          refine r_icmp_ne 550 hC dL_refuses_508 (by decide) (fun h => ?_) (fun h => ?_)
                          · have hf := if_F hf h
                            refine r_iconst (v := 0) hC dL_refuses_550 rfl ?_
                            exact r_zret hf hC rfl rfl (by omega) (by omega) dL_refuses_551
                          · have hf := if_T hf h
                            refine r_aload_n hC dL_refuses_511 0 rfl ?_
                            refine r_iconst (v := 2) hC dL_refuses_512 rfl ?_
                            refine r_wcall [] (fun r M1 h => c_L_trySave (cx_st hC) hz hZ 2 _ r M1 h) hf cs_L_180 hC rfl rfl (by decide) (by decide) (Nat.le_of_ble_eq_true rfl) (by omega) (by omega) dL_refuses_513 (fun x79 M80 hf => ?_)
                            refine r_sipush (v := (-1001)) hC dL_refuses_516 rfl ?_
                            refine r_icmp_ne 550 hC dL_refuses_519 (by decide) (fun h => ?_) (fun h => ?_)
                            · have hf := if_F hf h
                              refine r_iconst (v := 0) hC dL_refuses_550 rfl ?_
                              exact r_zret hf hC rfl rfl (by omega) (by omega) dL_refuses_551
                            · have hf := if_T hf h
                              refine r_aload_n hC dL_refuses_522 0 rfl ?_
                              refine r_iconst (v := (-1)) hC dL_refuses_523 rfl ?_
                              refine r_wcall [] (fun r M1 h => c_L_tryRestore (cx_st hC) hz hZ (-1) _ r M1 h) hf cs_L_121 hC rfl rfl (by decide) (by decide) (Nat.le_of_ble_eq_true rfl) (by omega) (by omega) dL_refuses_524 (fun x81 M82 hf => ?_)
                              refine r_sipush (v := (-1001)) hC dL_refuses_527 rfl ?_
                              refine r_icmp_ne 550 hC dL_refuses_530 (by decide) (fun h => ?_) (fun h => ?_)
                              · have hf := if_F hf h
                                refine r_iconst (v := 0) hC dL_refuses_550 rfl ?_
                                exact r_zret hf hC rfl rfl (by omega) (by omega) dL_refuses_551
                              · have hf := if_T hf h
                                refine r_aload_n hC dL_refuses_533 0 rfl ?_
                                refine r_sipush (v := 256) hC dL_refuses_534 rfl ?_
                                refine r_wcall [] (fun r M1 h => c_L_tryAppend (cx_st hC) hz hZ 256 _ r M1 h) hf cs_L_91 hC rfl rfl (by decide) (by decide) (Nat.le_of_ble_eq_true rfl) (by omega) (by omega) dL_refuses_537 (fun x83 M84 hf => ?_)
                                refine r_sipush (v := (-1002)) hC dL_refuses_540 rfl ?_
                                refine r_icmp_ne 550 hC dL_refuses_543 (by decide) (fun h => ?_) (fun h => ?_)
                                · have hf := if_F hf h
                                  refine r_iconst (v := 0) hC dL_refuses_550 rfl ?_
                                  exact r_zret hf hC rfl rfl (by omega) (by omega) dL_refuses_551
                                · have hf := if_T hf h
                                  refine r_iconst (v := 1) hC dL_refuses_546 rfl ?_
                                  refine r_goto 551 hC dL_refuses_547 (by decide) ?_
                                  exact r_zret hf hC rfl rfl (by omega) (by omega) dL_refuses_551
set_option maxRecDepth 20000 in
set_option maxHeartbeats 1000000 in
theorem w_L_refuses_b319 {X : XX} {G : GG} {Z : ZZ} {r : Int32} {M' : Mem}  {k n : Nat} (hC : Cx X G RL cL_refuses (some .boolean) 10 42 252 4) (hz : ZOk G Z) (hZ : ZM Z) (v1 : Int32) (v2 : Int32)    (M : Mem) (hb : k + 18 ≤ 42) (hn : n ≤ 6 * k) (hf : f_L_refuses_b319 v1 v2 M = some (r, M')) : V X G Z M k n (QN X G (QcI G Z r M') 42 252) 319 [(0, .ref (Z.1 0)), (1, .int v1), (2, .int v2)] [] := by
  unfold f_L_refuses_b319 at hf
  refine r_aload_n hC dL_refuses_319 0 rfl ?_
  refine r_iload_n hC dL_refuses_320 2 rfl ?_
  refine r_wcall [] (fun r M1 h => c_L_tryRemoveBeat (cx_st hC) hz hZ v2 _ r M1 h) hf cs_L_152 hC rfl rfl (by decide) (by decide) (Nat.le_of_ble_eq_true rfl) (by omega) (by omega) dL_refuses_321 (fun x49 M50 hf => ?_)
  refine r_sipush (v := (-1001)) hC dL_refuses_324 rfl ?_
  refine r_icmp_ne 550 hC dL_refuses_327 (by decide) (fun h => ?_) (fun h => ?_)
  · have hf := if_F hf h
    refine r_iconst (v := 0) hC dL_refuses_550 rfl ?_
    exact r_zret hf hC rfl rfl (by omega) (by omega) dL_refuses_551
  · have hf := if_T hf h
    refine r_iload_n hC dL_refuses_330 2 rfl ?_
    refine r_iconst (v := 1) hC dL_refuses_331 rfl ?_
    refine r_icmp_gt 346 hC dL_refuses_332 (by decide) (fun h => ?_) (fun h => ?_)
    · have hf := if_T hf h
      exact w_L_refuses_b346 hC hz hZ v1 v2   _ (by omega) (by omega) hf
    · have hf := if_F hf h
      refine r_aload_n hC dL_refuses_335 0 rfl ?_
      refine r_iconst (v := 0) hC dL_refuses_336 rfl ?_
      refine r_wcall [] (fun r M1 h => c_L_tryRemoveBeat (cx_st hC) hz hZ 0 _ r M1 h) hf cs_L_152 hC rfl rfl (by decide) (by decide) (Nat.le_of_ble_eq_true rfl) (by omega) (by omega) dL_refuses_337 (fun x51 M52 hf => ?_)
      refine r_sipush (v := (-1003)) hC dL_refuses_340 rfl ?_
      refine r_icmp_ne 550 hC dL_refuses_343 (by decide) (fun h => ?_) (fun h => ?_)
      · have hf := if_F hf h
        refine r_iconst (v := 0) hC dL_refuses_550 rfl ?_
        exact r_zret hf hC rfl rfl (by omega) (by omega) dL_refuses_551
      · have hf := if_T hf h
        exact w_L_refuses_b346 hC hz hZ v1 v2   _ (by omega) (by omega) hf
set_option maxRecDepth 20000 in
set_option maxHeartbeats 1000000 in
theorem w_L_refuses_b284 {X : XX} {G : GG} {Z : ZZ} {r : Int32} {M' : Mem}  {k n : Nat} (hC : Cx X G RL cL_refuses (some .boolean) 10 42 252 4) (hz : ZOk G Z) (hZ : ZM Z) (v1 : Int32) (v2 : Int32)   (s0 : Int32) (M : Mem) (hb : k + 20 ≤ 42) (hn : n ≤ 6 * k) (hf : f_L_refuses_b284 v1 v2 s0 M = some (r, M')) : V X G Z M k n (QN X G (QcI G Z r M') 42 252) 284 [(0, .ref (Z.1 0)), (1, .int v1), (2, .int v2)] [.int s0] := by
  unfold f_L_refuses_b284 at hf
  refine r_istore_n (L' := [(3, .int s0), (0, .ref (Z.1 0)), (1, .int v1), (2, .int v2)]) hC dL_refuses_284 (by decide) rfl ?_
  refine r_iload_n hC dL_refuses_285 0 rfl ?_
  refine r_if_eq 550 hC dL_refuses_286 (by decide) (fun h => ?_) (fun h => ?_)
  · have hf := if_T hf h
    refine r_iconst (v := 0) hC dL_refuses_550 rfl ?_
    exact r_zret hf hC rfl rfl (by omega) (by omega) dL_refuses_551
  · have hf := if_F hf h
    refine r_aload_n hC dL_refuses_289 1 rfl ?_
    refine r_iload_n hC dL_refuses_290 3 rfl ?_
    refine r_iconst (v := 1) hC dL_refuses_291 rfl ?_
    refine r_iadd hC dL_refuses_292 ?_
    refine r_wcall [] (fun r M1 h => c_L_tryInsertBeat (cx_st hC) hz hZ (v2 + 1) _ r M1 h) hf cs_L_149 hC rfl rfl (by decide) (by decide) (Nat.le_of_ble_eq_true rfl) (by omega) (by omega) dL_refuses_293 (fun x45 M46 hf => ?_)
    refine r_sipush (v := (-1001)) hC dL_refuses_296 rfl ?_
    refine r_icmp_ne 550 hC dL_refuses_299 (by decide) (fun h => ?_) (fun h => ?_)
    · have hf := if_F hf h
      refine r_iconst (v := 0) hC dL_refuses_550 rfl ?_
      exact r_zret hf hC rfl rfl (by omega) (by omega) dL_refuses_551
    · have hf := if_T hf h
      refine r_iload_n hC dL_refuses_302 3 rfl ?_
      refine r_bipush (v := 16) hC dL_refuses_303 rfl ?_
      refine r_icmp_lt 319 hC dL_refuses_305 (by decide) (fun h => ?_) (fun h => ?_)
      · have hf := if_T hf h
        refine r_L [1, 2, 3] rfl ?_
        exact w_L_refuses_b319 hC hz hZ v1 v2   _ (by omega) (by omega) hf
      · have hf := if_F hf h
        refine r_aload_n hC dL_refuses_308 1 rfl ?_
        refine r_iconst (v := 0) hC dL_refuses_309 rfl ?_
        refine r_wcall [] (fun r M1 h => c_L_tryInsertBeat (cx_st hC) hz hZ 0 _ r M1 h) hf cs_L_149 hC rfl rfl (by decide) (by decide) (Nat.le_of_ble_eq_true rfl) (by omega) (by omega) dL_refuses_310 (fun x47 M48 hf => ?_)
        refine r_sipush (v := (-1003)) hC dL_refuses_313 rfl ?_
        refine r_icmp_ne 550 hC dL_refuses_316 (by decide) (fun h => ?_) (fun h => ?_)
        · have hf := if_F hf h
          refine r_iconst (v := 0) hC dL_refuses_550 rfl ?_
          exact r_zret hf hC rfl rfl (by omega) (by omega) dL_refuses_551
        · have hf := if_T hf h
          refine r_L [1, 2, 3] rfl ?_
          exact w_L_refuses_b319 hC hz hZ v1 v2   _ (by omega) (by omega) hf
set_option maxRecDepth 20000 in
set_option maxHeartbeats 1000000 in
theorem w_L_refuses_b279 {X : XX} {G : GG} {Z : ZZ} {r : Int32} {M' : Mem}  {k n : Nat} (hC : Cx X G RL cL_refuses (some .boolean) 10 42 252 4) (hz : ZOk G Z) (hZ : ZM Z) (v1 : Int32) (v2 : Int32)    (M : Mem) (hb : k + 20 ≤ 42) (hn : n ≤ 6 * k) (hf : f_L_refuses_b279 v1 v2 M = some (r, M')) : V X G Z M k n (QN X G (QcI G Z r M') 42 252) 279 [(0, .ref (Z.1 0)), (1, .int v1), (2, .int v2)] [] := by
  unfold f_L_refuses_b279 at hf
  refine r_iconst (v := 1) hC dL_refuses_279 rfl ?_
  refine r_goto 284 hC dL_refuses_280 (by decide) ?_
  exact w_L_refuses_b284 hC hz hZ v1 v2  1 _ (by omega) (by omega) hf
set_option maxRecDepth 20000 in
set_option maxHeartbeats 1000000 in
theorem w_L_refuses_b283 {X : XX} {G : GG} {Z : ZZ} {r : Int32} {M' : Mem}  {k n : Nat} (hC : Cx X G RL cL_refuses (some .boolean) 10 42 252 4) (hz : ZOk G Z) (hZ : ZM Z) (v1 : Int32) (v2 : Int32)    (M : Mem) (hb : k + 20 ≤ 42) (hn : n ≤ 6 * k) (hf : f_L_refuses_b283 v1 v2 M = some (r, M')) : V X G Z M k n (QN X G (QcI G Z r M') 42 252) 283 [(0, .ref (Z.1 0)), (1, .int v1), (2, .int v2)] [] := by
  unfold f_L_refuses_b283 at hf
  refine r_iconst (v := 0) hC dL_refuses_283 rfl ?_
  exact w_L_refuses_b284 hC hz hZ v1 v2  0 _ (by omega) (by omega) hf
set_option maxRecDepth 20000 in
set_option maxHeartbeats 1000000 in
theorem w_L_refuses_b263 {X : XX} {G : GG} {Z : ZZ} {r : Int32} {M' : Mem}  {k n : Nat} (hC : Cx X G RL cL_refuses (some .boolean) 10 42 252 4) (hz : ZOk G Z) (hZ : ZM Z) (v1 : Int32) (v2 : Int32)    (M : Mem) (hb : k + 21 ≤ 42) (hn : n ≤ 6 * k) (hf : f_L_refuses_b263 v1 v2 M = some (r, M')) : V X G Z M k n (QN X G (QcI G Z r M') 42 252) 263 [(0, .ref (Z.1 0)), (1, .int v1), (2, .int v2)] [] := by
  unfold f_L_refuses_b263 at hf
  refine r_iload_n hC dL_refuses_263 1 rfl ?_
  refine r_iconst (v := 1) hC dL_refuses_264 rfl ?_
  refine r_icmp_gt 279 hC dL_refuses_265 (by decide) (fun h => ?_) (fun h => ?_)
  · have hf := if_T hf h
    exact w_L_refuses_b279 hC hz hZ v1 v2   _ (by omega) (by omega) hf
  · have hf := if_F hf h
    refine r_aload_n hC dL_refuses_268 0 rfl ?_
    refine r_iconst (v := 0) hC dL_refuses_269 rfl ?_
    refine r_wcall [] (fun r M1 h => c_L_tryStaff (cx_st hC) hz hZ 0 _ r M1 h) hf cs_L_145 hC rfl rfl (by decide) (by decide) (Nat.le_of_ble_eq_true rfl) (by omega) (by omega) dL_refuses_270 (fun x43 M44 hf => ?_)
    refine r_sipush (v := (-1003)) hC dL_refuses_273 rfl ?_
    refine r_icmp_ne 283 hC dL_refuses_276 (by decide) (fun h => ?_) (fun h => ?_)
    · have hf := if_F hf h
      exact w_L_refuses_b283 hC hz hZ v1 v2   _ (by omega) (by omega) hf
    · have hf := if_T hf h
      exact w_L_refuses_b279 hC hz hZ v1 v2   _ (by omega) (by omega) hf
set_option maxRecDepth 20000 in
set_option maxHeartbeats 1000000 in
theorem w_L_refuses {X : XX} {G : GG} {Z : ZZ} (hC : Cx X G RL cL_refuses (some .boolean) 10 42 252 4) (hz : ZOk G Z) (hZ : ZM Z)  (M : Mem) {r : Int32} {M' : Mem} (hf : f_L_refuses  M = some (r, M')) : V X G Z M 0 0 (QN X G (QcI G Z r M') 42 252) 0 [(0, .ref (Z.1 0))] [] := by
  have hb : 0 + 42 ≤ 42 := Nat.le_refl _
  have hn : 0 ≤ 6 * 0 := Nat.le_refl _
  unfold f_L_refuses at hf
  refine r_aload_n hC dL_refuses_0 0 rfl ?_
  refine r_bipush (v := 6) hC dL_refuses_1 rfl ?_
  refine r_wcall [] (fun r M1 h => c_L_tryAbout (cx_st hC) hz hZ 6 _ r M1 h) hf cs_L_115 hC rfl rfl (by decide) (by decide) (Nat.le_of_ble_eq_true rfl) (by omega) (by omega) dL_refuses_3 (fun x1 M2 hf => ?_)
  refine r_istore_n (L' := [(1, .int x1), (0, .ref (Z.1 0))]) hC dL_refuses_6 (by decide) rfl ?_
  refine r_aload_n hC dL_refuses_7 1 rfl ?_
  refine r_bipush (v := 7) hC dL_refuses_8 rfl ?_
  refine r_wcall [] (fun r M1 h => c_L_tryAbout (cx_st hC) hz hZ 7 _ r M1 h) hf cs_L_115 hC rfl rfl (by decide) (by decide) (Nat.le_of_ble_eq_true rfl) (by omega) (by omega) dL_refuses_10 (fun x3 M4 hf => ?_)
  refine r_istore_n (L' := [(2, .int x3), (1, .int x1), (0, .ref (Z.1 0))]) hC dL_refuses_13 (by decide) rfl ?_
  refine r_aload_n hC dL_refuses_14 2 rfl ?_
  refine r_bipush (v := 10) hC dL_refuses_15 rfl ?_
  refine r_wcall [] (fun r M1 h => c_L_tryAbout (cx_st hC) hz hZ 10 _ r M1 h) hf cs_L_115 hC rfl rfl (by decide) (by decide) (Nat.le_of_ble_eq_true rfl) (by omega) (by omega) dL_refuses_17 (fun x5 M6 hf => ?_)
  refine r_sipush (v := (-1002)) hC dL_refuses_20 rfl ?_
  refine r_icmp_ne 283 hC dL_refuses_23 (by decide) (fun h => ?_) (fun h => ?_)
  · have hf := if_F hf h
    refine r_L [2, 1, 0] rfl ?_
    exact w_L_refuses_b283 hC hz hZ x1 x3   _ (by omega) (by omega) hf
  · have hf := if_T hf h
    refine r_aload_n hC dL_refuses_26 2 rfl ?_
    refine r_iload_n hC dL_refuses_27 1 rfl ?_
    refine r_iconst (v := 0) hC dL_refuses_28 rfl ?_
    refine r_iconst (v := 1) hC dL_refuses_29 rfl ?_
    refine r_wcall [] (fun r M1 h => c_L_tryCell (cx_st hC) hz hZ x1 0 1 _ r M1 h) hf cs_L_127 hC rfl rfl (by decide) (by decide) (Nat.le_of_ble_eq_true rfl) (by omega) (by omega) dL_refuses_30 (fun x7 M8 hf => ?_)
    refine r_sipush (v := (-1001)) hC dL_refuses_33 rfl ?_
    refine r_icmp_ne 283 hC dL_refuses_36 (by decide) (fun h => ?_) (fun h => ?_)
    · have hf := if_F hf h
      refine r_L [2, 1, 0] rfl ?_
      exact w_L_refuses_b283 hC hz hZ x1 x3   _ (by omega) (by omega) hf
    · have hf := if_T hf h
      refine r_aload_n hC dL_refuses_39 2 rfl ?_
      refine r_iconst (v := 0) hC dL_refuses_40 rfl ?_
      refine r_iload_n hC dL_refuses_41 0 rfl ?_
      refine r_iconst (v := 0) hC dL_refuses_42 rfl ?_
      refine r_wcall [] (fun r M1 h => c_L_tryCell (cx_st hC) hz hZ 0 x3 0 _ r M1 h) hf cs_L_127 hC rfl rfl (by decide) (by decide) (Nat.le_of_ble_eq_true rfl) (by omega) (by omega) dL_refuses_43 (fun x9 M10 hf => ?_)
      refine r_sipush (v := (-1001)) hC dL_refuses_46 rfl ?_
      refine r_icmp_ne 283 hC dL_refuses_49 (by decide) (fun h => ?_) (fun h => ?_)
      · have hf := if_F hf h
        refine r_L [2, 1, 0] rfl ?_
        exact w_L_refuses_b283 hC hz hZ x1 x3   _ (by omega) (by omega) hf
      · have hf := if_T hf h
        refine r_aload_n hC dL_refuses_52 2 rfl ?_
        refine r_bipush (v := 6) hC dL_refuses_53 rfl ?_
        refine r_iconst (v := 0) hC dL_refuses_55 rfl ?_
        refine r_wcall [] (fun r M1 h => c_L_trySet (cx_st hC) hz hZ 6 0 _ r M1 h) hf cs_L_131 hC rfl rfl (by decide) (by decide) (Nat.le_of_ble_eq_true rfl) (by omega) (by omega) dL_refuses_56 (fun x11 M12 hf => ?_)
        refine r_sipush (v := (-1002)) hC dL_refuses_59 rfl ?_
        refine r_icmp_ne 283 hC dL_refuses_62 (by decide) (fun h => ?_) (fun h => ?_)
        · have hf := if_F hf h
          refine r_L [2, 1, 0] rfl ?_
          exact w_L_refuses_b283 hC hz hZ x1 x3   _ (by omega) (by omega) hf
        · have hf := if_T hf h
          refine r_aload_n hC dL_refuses_65 2 rfl ?_
          refine r_iconst (v := 0) hC dL_refuses_66 rfl ?_
          refine r_bipush (v := 25) hC dL_refuses_67 rfl ?_
          refine r_wcall [] (fun r M1 h => c_L_trySet (cx_st hC) hz hZ 0 25 _ r M1 h) hf cs_L_131 hC rfl rfl (by decide) (by decide) (Nat.le_of_ble_eq_true rfl) (by omega) (by omega) dL_refuses_69 (fun x13 M14 hf => ?_)
          refine r_sipush (v := (-1002)) hC dL_refuses_72 rfl ?_
          refine r_icmp_ne 283 hC dL_refuses_75 (by decide) (fun h => ?_) (fun h => ?_)
          · have hf := if_F hf h
            refine r_L [2, 1, 0] rfl ?_
            exact w_L_refuses_b283 hC hz hZ x1 x3   _ (by omega) (by omega) hf
          · have hf := if_T hf h
            refine r_aload_n hC dL_refuses_78 2 rfl ?_
            refine r_iconst (v := 1) hC dL_refuses_79 rfl ?_
            refine r_iconst (v := 0) hC dL_refuses_80 rfl ?_
            refine r_wcall [] (fun r M1 h => c_L_trySet (cx_st hC) hz hZ 1 0 _ r M1 h) hf cs_L_131 hC rfl rfl (by decide) (by decide) (Nat.le_of_ble_eq_true rfl) (by omega) (by omega) dL_refuses_81 (fun x15 M16 hf => ?_)
            refine r_sipush (v := (-1002)) hC dL_refuses_84 rfl ?_
            refine r_icmp_ne 283 hC dL_refuses_87 (by decide) (fun h => ?_) (fun h => ?_)
            · have hf := if_F hf h
              refine r_L [2, 1, 0] rfl ?_
              exact w_L_refuses_b283 hC hz hZ x1 x3   _ (by omega) (by omega) hf
            · have hf := if_T hf h
              refine r_aload_n hC dL_refuses_90 2 rfl ?_
              refine r_iconst (v := 2) hC dL_refuses_91 rfl ?_
              refine r_bipush (v := 6) hC dL_refuses_92 rfl ?_
              refine r_wcall [] (fun r M1 h => c_L_trySet (cx_st hC) hz hZ 2 6 _ r M1 h) hf cs_L_131 hC rfl rfl (by decide) (by decide) (Nat.le_of_ble_eq_true rfl) (by omega) (by omega) dL_refuses_94 (fun x17 M18 hf => ?_)
              refine r_sipush (v := (-1002)) hC dL_refuses_97 rfl ?_
              refine r_icmp_ne 283 hC dL_refuses_100 (by decide) (fun h => ?_) (fun h => ?_)
              · have hf := if_F hf h
                refine r_L [2, 1, 0] rfl ?_
                exact w_L_refuses_b283 hC hz hZ x1 x3   _ (by omega) (by omega) hf
              · have hf := if_T hf h
                refine r_aload_n hC dL_refuses_103 2 rfl ?_
                refine r_iconst (v := 3) hC dL_refuses_104 rfl ?_
                refine r_bipush (v := 10) hC dL_refuses_105 rfl ?_
                refine r_wcall [] (fun r M1 h => c_L_trySet (cx_st hC) hz hZ 3 10 _ r M1 h) hf cs_L_131 hC rfl rfl (by decide) (by decide) (Nat.le_of_ble_eq_true rfl) (by omega) (by omega) dL_refuses_107 (fun x19 M20 hf => ?_)
                refine r_sipush (v := (-1002)) hC dL_refuses_110 rfl ?_
                refine r_icmp_ne 283 hC dL_refuses_113 (by decide) (fun h => ?_) (fun h => ?_)
                · have hf := if_F hf h
                  refine r_L [2, 1, 0] rfl ?_
                  exact w_L_refuses_b283 hC hz hZ x1 x3   _ (by omega) (by omega) hf
                · have hf := if_T hf h
                  refine r_aload_n hC dL_refuses_116 2 rfl ?_
                  refine r_iconst (v := 4) hC dL_refuses_117 rfl ?_
                  refine r_iconst (v := 2) hC dL_refuses_118 rfl ?_
                  refine r_wcall [] (fun r M1 h => c_L_trySet (cx_st hC) hz hZ 4 2 _ r M1 h) hf cs_L_131 hC rfl rfl (by decide) (by decide) (Nat.le_of_ble_eq_true rfl) (by omega) (by omega) dL_refuses_119 (fun x21 M22 hf => ?_)
                  refine r_sipush (v := (-1002)) hC dL_refuses_122 rfl ?_
                  refine r_icmp_ne 283 hC dL_refuses_125 (by decide) (fun h => ?_) (fun h => ?_)
                  · have hf := if_F hf h
                    refine r_L [2, 1, 0] rfl ?_
                    exact w_L_refuses_b283 hC hz hZ x1 x3   _ (by omega) (by omega) hf
                  · have hf := if_T hf h
                    refine r_aload_n hC dL_refuses_128 2 rfl ?_
                    refine r_iconst (v := 5) hC dL_refuses_129 rfl ?_
                    refine r_iconst (v := (-1)) hC dL_refuses_130 rfl ?_
                    refine r_wcall [] (fun r M1 h => c_L_trySet (cx_st hC) hz hZ 5 (-1) _ r M1 h) hf cs_L_131 hC rfl rfl (by decide) (by decide) (Nat.le_of_ble_eq_true rfl) (by omega) (by omega) dL_refuses_131 (fun x23 M24 hf => ?_)
                    refine r_sipush (v := (-1002)) hC dL_refuses_134 rfl ?_
                    refine r_icmp_ne 283 hC dL_refuses_137 (by decide) (fun h => ?_) (fun h => ?_)
                    · have hf := if_F hf h
                      refine r_L [2, 1, 0] rfl ?_
                      exact w_L_refuses_b283 hC hz hZ x1 x3   _ (by omega) (by omega) hf
                    · have hf := if_T hf h
                      refine r_aload_n hC dL_refuses_140 2 rfl ?_
                      refine r_iload_n hC dL_refuses_141 1 rfl ?_
                      refine r_iconst (v := 0) hC dL_refuses_142 rfl ?_
                      refine r_bipush (v := 61) hC dL_refuses_143 rfl ?_
                      refine r_wcall [] (fun r M1 h => c_L_tryWrite (cx_st hC) hz hZ x1 0 61 _ r M1 h) hf cs_L_135 hC rfl rfl (by decide) (by decide) (Nat.le_of_ble_eq_true rfl) (by omega) (by omega) dL_refuses_145 (fun x25 M26 hf => ?_)
                      refine r_sipush (v := (-1001)) hC dL_refuses_148 rfl ?_
                      refine r_icmp_ne 283 hC dL_refuses_151 (by decide) (fun h => ?_) (fun h => ?_)
                      · have hf := if_F hf h
                        refine r_L [2, 1, 0] rfl ?_
                        exact w_L_refuses_b283 hC hz hZ x1 x3   _ (by omega) (by omega) hf
                      · have hf := if_T hf h
                        refine r_aload_n hC dL_refuses_154 2 rfl ?_
                        refine r_iconst (v := 0) hC dL_refuses_155 rfl ?_
                        refine r_iload_n hC dL_refuses_156 0 rfl ?_
                        refine r_iconst (v := 0) hC dL_refuses_157 rfl ?_
                        refine r_wcall [] (fun r M1 h => c_L_tryWrite (cx_st hC) hz hZ 0 x3 0 _ r M1 h) hf cs_L_135 hC rfl rfl (by decide) (by decide) (Nat.le_of_ble_eq_true rfl) (by omega) (by omega) dL_refuses_158 (fun x27 M28 hf => ?_)
                        refine r_sipush (v := (-1001)) hC dL_refuses_161 rfl ?_
                        refine r_icmp_ne 283 hC dL_refuses_164 (by decide) (fun h => ?_) (fun h => ?_)
                        · have hf := if_F hf h
                          refine r_L [2, 1, 0] rfl ?_
                          exact w_L_refuses_b283 hC hz hZ x1 x3   _ (by omega) (by omega) hf
                        · have hf := if_T hf h
                          refine r_aload_n hC dL_refuses_167 2 rfl ?_
                          refine r_iconst (v := 0) hC dL_refuses_168 rfl ?_
                          refine r_iconst (v := 0) hC dL_refuses_169 rfl ?_
                          refine r_bipush (v := 61) hC dL_refuses_170 rfl ?_
                          refine r_wcall [] (fun r M1 h => c_L_tryWrite (cx_st hC) hz hZ 0 0 61 _ r M1 h) hf cs_L_135 hC rfl rfl (by decide) (by decide) (Nat.le_of_ble_eq_true rfl) (by omega) (by omega) dL_refuses_172 (fun x29 M30 hf => ?_)
                          refine r_sipush (v := (-1002)) hC dL_refuses_175 rfl ?_
                          refine r_icmp_ne 283 hC dL_refuses_178 (by decide) (fun h => ?_) (fun h => ?_)
                          · have hf := if_F hf h
                            refine r_L [2, 1, 0] rfl ?_
                            exact w_L_refuses_b283 hC hz hZ x1 x3   _ (by omega) (by omega) hf
                          · have hf := if_T hf h
                            refine r_aload_n hC dL_refuses_181 2 rfl ?_
                            refine r_iconst (v := 0) hC dL_refuses_182 rfl ?_
                            refine r_iconst (v := 0) hC dL_refuses_183 rfl ?_
                            refine r_bipush (v := (-2)) hC dL_refuses_184 rfl ?_
                            refine r_wcall [] (fun r M1 h => c_L_tryWrite (cx_st hC) hz hZ 0 0 (-2) _ r M1 h) hf cs_L_135 hC rfl rfl (by decide) (by decide) (Nat.le_of_ble_eq_true rfl) (by omega) (by omega) dL_refuses_186 (fun x31 M32 hf => ?_)
                            refine r_sipush (v := (-1002)) hC dL_refuses_189 rfl ?_
                            refine r_icmp_ne 283 hC dL_refuses_192 (by decide) (fun h => ?_) (fun h => ?_)
                            · have hf := if_F hf h
                              refine r_L [2, 1, 0] rfl ?_
                              exact w_L_refuses_b283 hC hz hZ x1 x3   _ (by omega) (by omega) hf
                            · have hf := if_T hf h
                              refine r_aload_n hC dL_refuses_195 2 rfl ?_
                              refine r_iconst (v := 0) hC dL_refuses_196 rfl ?_
                              refine r_iconst (v := 0) hC dL_refuses_197 rfl ?_
                              refine r_bipush (v := 99) hC dL_refuses_198 rfl ?_
                              refine r_wcall [] (fun r M1 h => c_L_tryWrite (cx_st hC) hz hZ 0 0 99 _ r M1 h) hf cs_L_135 hC rfl rfl (by decide) (by decide) (Nat.le_of_ble_eq_true rfl) (by omega) (by omega) dL_refuses_200 (fun x33 M34 hf => ?_)
                              refine r_sipush (v := (-1003)) hC dL_refuses_203 rfl ?_
                              refine r_icmp_ne 283 hC dL_refuses_206 (by decide) (fun h => ?_) (fun h => ?_)
                              · have hf := if_F hf h
                                refine r_L [2, 1, 0] rfl ?_
                                exact w_L_refuses_b283 hC hz hZ x1 x3   _ (by omega) (by omega) hf
                              · have hf := if_T hf h
                                refine r_aload_n hC dL_refuses_209 2 rfl ?_
                                refine r_iload_n hC dL_refuses_210 1 rfl ?_
                                refine r_bipush (v := 61) hC dL_refuses_211 rfl ?_
                                refine r_wcall [] (fun r M1 h => c_L_tryTranspose (cx_st hC) hz hZ x1 61 _ r M1 h) hf cs_L_139 hC rfl rfl (by decide) (by decide) (Nat.le_of_ble_eq_true rfl) (by omega) (by omega) dL_refuses_213 (fun x35 M36 hf => ?_)
                                refine r_sipush (v := (-1001)) hC dL_refuses_216 rfl ?_
                                refine r_icmp_ne 283 hC dL_refuses_219 (by decide) (fun h => ?_) (fun h => ?_)
                                · have hf := if_F hf h
                                  refine r_L [2, 1, 0] rfl ?_
                                  exact w_L_refuses_b283 hC hz hZ x1 x3   _ (by omega) (by omega) hf
                                · have hf := if_T hf h
                                  refine r_aload_n hC dL_refuses_222 2 rfl ?_
                                  refine r_iconst (v := 0) hC dL_refuses_223 rfl ?_
                                  refine r_bipush (v := 61) hC dL_refuses_224 rfl ?_
                                  refine r_wcall [] (fun r M1 h => c_L_tryTranspose (cx_st hC) hz hZ 0 61 _ r M1 h) hf cs_L_139 hC rfl rfl (by decide) (by decide) (Nat.le_of_ble_eq_true rfl) (by omega) (by omega) dL_refuses_226 (fun x37 M38 hf => ?_)
                                  refine r_sipush (v := (-1002)) hC dL_refuses_229 rfl ?_
                                  refine r_icmp_ne 283 hC dL_refuses_232 (by decide) (fun h => ?_) (fun h => ?_)
                                  · have hf := if_F hf h
                                    refine r_L [2, 1, 0] rfl ?_
                                    exact w_L_refuses_b283 hC hz hZ x1 x3   _ (by omega) (by omega) hf
                                  · have hf := if_T hf h
                                    refine r_aload_n hC dL_refuses_235 2 rfl ?_
                                    refine r_iconst (v := 0) hC dL_refuses_236 rfl ?_
                                    refine r_iload_n hC dL_refuses_237 1 rfl ?_
                                    refine r_wcall [] (fun r M1 h => c_L_tryExchange (cx_st hC) hz hZ 0 x1 _ r M1 h) hf cs_L_142 hC rfl rfl (by decide) (by decide) (Nat.le_of_ble_eq_true rfl) (by omega) (by omega) dL_refuses_238 (fun x39 M40 hf => ?_)
                                    refine r_sipush (v := (-1001)) hC dL_refuses_241 rfl ?_
                                    refine r_icmp_ne 283 hC dL_refuses_244 (by decide) (fun h => ?_) (fun h => ?_)
                                    · have hf := if_F hf h
                                      refine r_L [2, 1, 0] rfl ?_
                                      exact w_L_refuses_b283 hC hz hZ x1 x3   _ (by omega) (by omega) hf
                                    · have hf := if_T hf h
                                      refine r_iload_n hC dL_refuses_247 1 rfl ?_
                                      refine r_iconst (v := 4) hC dL_refuses_248 rfl ?_
                                      refine r_icmp_lt 263 hC dL_refuses_249 (by decide) (fun h => ?_) (fun h => ?_)
                                      · have hf := if_T hf h
                                        refine r_L [2, 1, 0] rfl ?_
                                        exact w_L_refuses_b263 hC hz hZ x1 x3   _ (by omega) (by omega) hf
                                      · have hf := if_F hf h
                                        refine r_aload_n hC dL_refuses_252 2 rfl ?_
                                        refine r_iconst (v := 1) hC dL_refuses_253 rfl ?_
                                        refine r_wcall [] (fun r M1 h => c_L_tryStaff (cx_st hC) hz hZ 1 _ r M1 h) hf cs_L_145 hC rfl rfl (by decide) (by decide) (Nat.le_of_ble_eq_true rfl) (by omega) (by omega) dL_refuses_254 (fun x41 M42 hf => ?_)
                                        refine r_sipush (v := (-1003)) hC dL_refuses_257 rfl ?_
                                        refine r_icmp_ne 283 hC dL_refuses_260 (by decide) (fun h => ?_) (fun h => ?_)
                                        · have hf := if_F hf h
                                          refine r_L [2, 1, 0] rfl ?_
                                          exact w_L_refuses_b283 hC hz hZ x1 x3   _ (by omega) (by omega) hf
                                        · have hf := if_T hf h
                                          refine r_L [2, 1, 0] rfl ?_
                                          exact w_L_refuses_b263 hC hz hZ x1 x3   _ (by omega) (by omega) hf
set_option maxRecDepth 20000 in
set_option maxHeartbeats 1000000 in
theorem c_L_refuses {l : Launch} (hl : l.stackTraces = false) {G : GG} {Z : ZZ} (hz : ZOk G Z) (hZ : ZM Z)  (M : Mem) (r : Int32) (M' : Mem) (hf : f_L_refuses  M = some (r, M')) : CC (QcI G Z r M') l G Z yL_refuses cL_refuses 4 (some .boolean) 10 42 252 [.ref (Z.1 0)] M :=
  CC.of [(0, .ref (Z.1 0))] hl (by decide +kernel) (Nat.le_of_ble_eq_true rfl) rfl (fun _ hC => w_L_refuses hC hz hZ  M hf)
