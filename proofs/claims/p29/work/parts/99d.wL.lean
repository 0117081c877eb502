set_option maxRecDepth 20000 in
set_option maxHeartbeats 1000000 in
theorem w_L_beats_b177 {X : XX} {G : GG} {Z : ZZ} {r : Int32} {M' : Mem} {Zq : ZZ} {B31 : Nat} {B65 : Nat} {B92 : Nat} {k n : Nat} (hC : Cx X G RL cL_beats (some .boolean) 10 4040 24240 23) (hz : ZOk G Z) (hZ : ZM Z) (h43 : At Z 43 (dA 0 4)) (hzz : Sub G Z Zq) (v1 : Int32) (v2 : Int32) (v3 : Int32) (v4 : Int32) (v5 : Int32) (v6 : Int32) (v9 : Int32) (v10 : Int32) (v11 : Int32) (v12 : Int32) (v13 : Int32) (v14 : Int32) (v15 : Int32) (v16 : Int32) (v18 : Int32) (k31 : Int32 → Int32 → Int32 → Int32 → Int32 → Int32 → Int32 → Mem → Option (Int32 × Mem)) (k65 : Int32 → Int32 → Int32 → Int32 → Int32 → Int32 → Mem → Option (Int32 × Mem)) (k92 : Int32 → Int32 → Int32 → Int32 → Int32 → Mem → Option (Int32 × Mem)) (hk31 : ∀ (k n : Nat) (u2 : Int32) (u3 : Int32) (u4 : Int32) (u5 : Int32) (u6 : Int32) (u8 : Int32) (u9 : Int32) (M : Mem), k ≤ B31 → n ≤ 6 * k → k31 u2 u3 u4 u5 u6 u8 u9 M = some (r, M') → V X G Z M k n (QN X G (QcI G Zq r M') 4040 24240) 31 [(0, .ref (Z.1 0)), (1, .int v1), (2, .int u2), (3, .int u3), (4, .int u4), (5, .int u5), (6, .int u6), (7, .ref (Z.1 43)), (8, .int u8), (9, .int u9)] []) (hk65 : ∀ (k n : Nat) (u4 : Int32) (u5 : Int32) (u8 : Int32) (u11 : Int32) (u12 : Int32) (u13 : Int32) (M : Mem), k ≤ B65 → n ≤ 6 * k → k65 u4 u5 u8 u11 u12 u13 M = some (r, M') → V X G Z M k n (QN X G (QcI G Zq r M') 4040 24240) 65 [(0, .ref (Z.1 0)), (1, .int v1), (2, .int v2), (3, .int v3), (4, .int u4), (5, .int u5), (6, .int v6), (7, .ref (Z.1 43)), (8, .int u8), (9, .int v9), (10, .int v10), (11, .int u11), (12, .int u12), (13, .int u13)] []) (hk92 : ∀ (k n : Nat) (u14 : Int32) (u15 : Int32) (u16 : Int32) (u17 : Int32) (u18 : Int32) (M : Mem), k ≤ B92 → n ≤ 6 * k → k92 u14 u15 u16 u17 u18 M = some (r, M') → V X G Z M k n (QN X G (QcI G Zq r M') 4040 24240) 92 [(0, .ref (Z.1 0)), (1, .int v1), (2, .int v2), (3, .int v3), (4, .int v4), (5, .int v5), (6, .int v6), (7, .ref (Z.1 43)), (9, .int v9), (10, .int v10), (11, .int v11), (12, .int v12), (13, .int v13), (14, .int u14), (15, .int u15), (16, .int u16), (17, .int u17), (18, .int u18)] []) (hB31 : B31 ≤ 4040) (hB65 : B65 ≤ 4040) (hB92 : B92 ≤ 4040)  (M : Mem) (hb92 : k + 0 ≤ B92) (hn : n ≤ 6 * k) (hf : f_L_beats_b177 v1 v2 v3 v4 v5 v6 v9 v10 v11 v12 v13 v14 v15 v16 v18 k31 k65 k92 M = some (r, M')) : V X G Z M k n (QN X G (QcI G Zq r M') 4040 24240) 177 [(0, .ref (Z.1 0)), (1, .int v1), (2, .int v2), (3, .int v3), (4, .int v4), (5, .int v5), (6, .int v6), (7, .ref (Z.1 43)), (9, .int v9), (10, .int v10), (11, .int v11), (12, .int v12), (13, .int v13), (14, .int v14), (15, .int v15), (16, .int v16), (18, .int v18)] [] := by
  unfold f_L_beats_b177 at hf
  refine r_iconst (v := 1) hC dL_beats_177 rfl ?_
  refine r_goto 182 hC dL_beats_178 (by decide) ?_
  refine r_istore (L' := [(17, .int 1), (0, .ref (Z.1 0)), (1, .int v1), (2, .int v2), (3, .int v3), (4, .int v4), (5, .int v5), (6, .int v6), (7, .ref (Z.1 43)), (9, .int v9), (10, .int v10), (11, .int v11), (12, .int v12), (13, .int v13), (14, .int v14), (15, .int v15), (16, .int v16), (18, .int v18)]) hC dL_beats_182 (by decide) rfl ?_
  refine r_iinc (v := v18 + 1) (L' := [(18, .int (v18 + 1)), (17, .int 1), (0, .ref (Z.1 0)), (1, .int v1), (2, .int v2), (3, .int v3), (4, .int v4), (5, .int v5), (6, .int v6), (7, .ref (Z.1 43)), (9, .int v9), (10, .int v10), (11, .int v11), (12, .int v12), (13, .int v13), (14, .int v14), (15, .int v15), (16, .int v16)]) hC dL_beats_184 17 rfl rfl (by decide) rfl ?_
  refine r_goto 92 hC dL_beats_187 (by decide) ?_
  refine r_L [2, 3, 4, 5, 6, 7, 8, 9, 10, 11, 12, 13, 14, 15, 16, 17, 1, 0] rfl ?_
  exact hk92 _ _ _ _ _ _ _ _ (by omega) (by omega) hf
set_option maxRecDepth 20000 in
set_option maxHeartbeats 1000000 in
theorem w_L_beats_b156 {X : XX} {G : GG} {Z : ZZ} {r : Int32} {M' : Mem} {Zq : ZZ} {B31 : Nat} {B65 : Nat} {B92 : Nat} {k n : Nat} (hC : Cx X G RL cL_beats (some .boolean) 10 4040 24240 23) (hz : ZOk G Z) (hZ : ZM Z) (h43 : At Z 43 (dA 0 4)) (hzz : Sub G Z Zq) (v1 : Int32) (v2 : Int32) (v3 : Int32) (v4 : Int32) (v5 : Int32) (v6 : Int32) (v9 : Int32) (v10 : Int32) (v11 : Int32) (v12 : Int32) (v13 : Int32) (v14 : Int32) (v15 : Int32) (v17 : Int32) (v18 : Int32) (k31 : Int32 → Int32 → Int32 → Int32 → Int32 → Int32 → Int32 → Mem → Option (Int32 × Mem)) (k65 : Int32 → Int32 → Int32 → Int32 → Int32 → Int32 → Mem → Option (Int32 × Mem)) (k92 : Int32 → Int32 → Int32 → Int32 → Int32 → Mem → Option (Int32 × Mem)) (hk31 : ∀ (k n : Nat) (u2 : Int32) (u3 : Int32) (u4 : Int32) (u5 : Int32) (u6 : Int32) (u8 : Int32) (u9 : Int32) (M : Mem), k ≤ B31 → n ≤ 6 * k → k31 u2 u3 u4 u5 u6 u8 u9 M = some (r, M') → V X G Z M k n (QN X G (QcI G Zq r M') 4040 24240) 31 [(0, .ref (Z.1 0)), (1, .int v1), (2, .int u2), (3, .int u3), (4, .int u4), (5, .int u5), (6, .int u6), (7, .ref (Z.1 43)), (8, .int u8), (9, .int u9)] []) (hk65 : ∀ (k n : Nat) (u4 : Int32) (u5 : Int32) (u8 : Int32) (u11 : Int32) (u12 : Int32) (u13 : Int32) (M : Mem), k ≤ B65 → n ≤ 6 * k → k65 u4 u5 u8 u11 u12 u13 M = some (r, M') → V X G Z M k n (QN X G (QcI G Zq r M') 4040 24240) 65 [(0, .ref (Z.1 0)), (1, .int v1), (2, .int v2), (3, .int v3), (4, .int u4), (5, .int u5), (6, .int v6), (7, .ref (Z.1 43)), (8, .int u8), (9, .int v9), (10, .int v10), (11, .int u11), (12, .int u12), (13, .int u13)] []) (hk92 : ∀ (k n : Nat) (u14 : Int32) (u15 : Int32) (u16 : Int32) (u17 : Int32) (u18 : Int32) (M : Mem), k ≤ B92 → n ≤ 6 * k → k92 u14 u15 u16 u17 u18 M = some (r, M') → V X G Z M k n (QN X G (QcI G Zq r M') 4040 24240) 92 [(0, .ref (Z.1 0)), (1, .int v1), (2, .int v2), (3, .int v3), (4, .int v4), (5, .int v5), (6, .int v6), (7, .ref (Z.1 43)), (9, .int v9), (10, .int v10), (11, .int v11), (12, .int v12), (13, .int v13), (14, .int u14), (15, .int u15), (16, .int u16), (17, .int u17), (18, .int u18)] []) (hB31 : B31 ≤ 4040) (hB65 : B65 ≤ 4040) (hB92 : B92 ≤ 4040) (s0 : Int32) (M : Mem) (hb92 : k + 1 ≤ B92) (hn : n ≤ 6 * k) (hf : f_L_beats_b156 v1 v2 v3 v4 v5 v6 v9 v10 v11 v12 v13 v14 v15 v17 v18 k31 k65 k92 s0 M = some (r, M')) : V X G Z M k n (QN X G (QcI G Zq r M') 4040 24240) 156 [(0, .ref (Z.1 0)), (1, .int v1), (2, .int v2), (3, .int v3), (4, .int v4), (5, .int v5), (6, .int v6), (7, .ref (Z.1 43)), (9, .int v9), (10, .int v10), (11, .int v11), (12, .int v12), (13, .int v13), (14, .int v14), (15, .int v15), (17, .int v17), (18, .int v18)] [.int s0] := by
  unfold f_L_beats_b156 at hf
  refine r_istore (L' := [(16, .int s0), (0, .ref (Z.1 0)), (1, .int v1), (2, .int v2), (3, .int v3), (4, .int v4), (5, .int v5), (6, .int v6), (7, .ref (Z.1 43)), (9, .int v9), (10, .int v10), (11, .int v11), (12, .int v12), (13, .int v13), (14, .int v14), (15, .int v15), (17, .int v17), (18, .int v18)]) hC dL_beats_156 (by decide) rfl ?_
  refine r_iload hC dL_beats_158 16 rfl ?_
  refine r_if_ne 177 hC dL_beats_160 (by decide) (fun h => ?_) (fun h => ?_)
  · have hf := if_F hf h
    refine r_L [1, 2, 3, 4, 5, 6, 7, 8, 9, 10, 11, 12, 13, 14, 15, 0, 17] rfl ?_
    exact w_L_beats_b177 hC hz hZ h43 hzz v1 v2 v3 v4 v5 v6 v9 v10 v11 v12 v13 v14 v15 s0 v18 k31 k65 k92 hk31 hk65 hk92 (by omega) (by omega) (by omega)  _ (by omega) (by omega) hf
  · have hf := if_T hf h
    refine r_aload_n hC dL_beats_163 1 rfl ?_
    refine r_iload hC dL_beats_164 17 rfl ?_
    refine r_iload hC dL_beats_166 9 rfl ?_
    refine r_iconst (v := 0) hC dL_beats_168 rfl ?_
    refine r_wcall [] (fun r M1 h => c_L_tryCell (cx_st hC) hz hZ v18 v9 0 _ r M1 h) hf cs_L_127 hC rfl rfl (by decide) (by decide) (Nat.le_of_ble_eq_true rfl) (by omega) (by omega) dL_beats_169 (fun x35 M36 hf => ?_)
    refine r_bipush (v := 99) hC dL_beats_172 rfl ?_
    refine r_icmp_ne 181 hC dL_beats_174 (by decide) (fun h => ?_) (fun h => ?_)
    · have hf := if_F hf h
      refine r_iconst (v := 0) hC dL_beats_181 rfl ?_
      refine r_istore (L' := [(17, .int 0), (16, .int s0), (0, .ref (Z.1 0)), (1, .int v1), (2, .int v2), (3, .int v3), (4, .int v4), (5, .int v5), (6, .int v6), (7, .ref (Z.1 43)), (9, .int v9), (10, .int v10), (11, .int v11), (12, .int v12), (13, .int v13), (14, .int v14), (15, .int v15), (18, .int v18)]) hC dL_beats_182 (by decide) rfl ?_
      refine r_iinc (v := v18 + 1) (L' := [(18, .int (v18 + 1)), (17, .int 0), (16, .int s0), (0, .ref (Z.1 0)), (1, .int v1), (2, .int v2), (3, .int v3), (4, .int v4), (5, .int v5), (6, .int v6), (7, .ref (Z.1 43)), (9, .int v9), (10, .int v10), (11, .int v11), (12, .int v12), (13, .int v13), (14, .int v14), (15, .int v15)]) hC dL_beats_184 17 rfl rfl (by decide) rfl ?_
      refine r_goto 92 hC dL_beats_187 (by decide) ?_
      refine r_L [3, 4, 5, 6, 7, 8, 9, 10, 11, 12, 13, 14, 15, 16, 17, 2, 1, 0] rfl ?_
      exact hk92 _ _ _ _ _ _ _ _ (by omega) (by omega) hf
    · have hf := if_T hf h
      refine r_L [1, 2, 3, 4, 5, 6, 7, 8, 9, 10, 11, 12, 13, 14, 15, 0, 17] rfl ?_
      exact w_L_beats_b177 hC hz hZ h43 hzz v1 v2 v3 v4 v5 v6 v9 v10 v11 v12 v13 v14 v15 s0 v18 k31 k65 k92 hk31 hk65 hk92 (by omega) (by omega) (by omega)  _ (by omega) (by omega) hf
set_option maxRecDepth 20000 in
set_option maxHeartbeats 1000000 in
theorem w_L_beats_b140 {X : XX} {G : GG} {Z : ZZ} {r : Int32} {M' : Mem} {Zq : ZZ} {B31 : Nat} {B65 : Nat} {B92 : Nat} {k n : Nat} (hC : Cx X G RL cL_beats (some .boolean) 10 4040 24240 23) (hz : ZOk G Z) (hZ : ZM Z) (h43 : At Z 43 (dA 0 4)) (hzz : Sub G Z Zq) (v1 : Int32) (v2 : Int32) (v3 : Int32) (v4 : Int32) (v5 : Int32) (v6 : Int32) (v9 : Int32) (v10 : Int32) (v11 : Int32) (v12 : Int32) (v13 : Int32) (v14 : Int32) (v16 : Int32) (v17 : Int32) (v18 : Int32) (v19 : Int32) (k31 : Int32 → Int32 → Int32 → Int32 → Int32 → Int32 → Int32 → Mem → Option (Int32 × Mem)) (k65 : Int32 → Int32 → Int32 → Int32 → Int32 → Int32 → Mem → Option (Int32 × Mem)) (k92 : Int32 → Int32 → Int32 → Int32 → Int32 → Mem → Option (Int32 × Mem)) (hk31 : ∀ (k n : Nat) (u2 : Int32) (u3 : Int32) (u4 : Int32) (u5 : Int32) (u6 : Int32) (u8 : Int32) (u9 : Int32) (M : Mem), k ≤ B31 → n ≤ 6 * k → k31 u2 u3 u4 u5 u6 u8 u9 M = some (r, M') → V X G Z M k n (QN X G (QcI G Zq r M') 4040 24240) 31 [(0, .ref (Z.1 0)), (1, .int v1), (2, .int u2), (3, .int u3), (4, .int u4), (5, .int u5), (6, .int u6), (7, .ref (Z.1 43)), (8, .int u8), (9, .int u9)] []) (hk65 : ∀ (k n : Nat) (u4 : Int32) (u5 : Int32) (u8 : Int32) (u11 : Int32) (u12 : Int32) (u13 : Int32) (M : Mem), k ≤ B65 → n ≤ 6 * k → k65 u4 u5 u8 u11 u12 u13 M = some (r, M') → V X G Z M k n (QN X G (QcI G Zq r M') 4040 24240) 65 [(0, .ref (Z.1 0)), (1, .int v1), (2, .int v2), (3, .int v3), (4, .int u4), (5, .int u5), (6, .int v6), (7, .ref (Z.1 43)), (8, .int u8), (9, .int v9), (10, .int v10), (11, .int u11), (12, .int u12), (13, .int u13)] []) (hk92 : ∀ (k n : Nat) (u14 : Int32) (u15 : Int32) (u16 : Int32) (u17 : Int32) (u18 : Int32) (M : Mem), k ≤ B92 → n ≤ 6 * k → k92 u14 u15 u16 u17 u18 M = some (r, M') → V X G Z M k n (QN X G (QcI G Zq r M') 4040 24240) 92 [(0, .ref (Z.1 0)), (1, .int v1), (2, .int v2), (3, .int v3), (4, .int v4), (5, .int v5), (6, .int v6), (7, .ref (Z.1 43)), (9, .int v9), (10, .int v10), (11, .int v11), (12, .int v12), (13, .int v13), (14, .int u14), (15, .int u15), (16, .int u16), (17, .int u17), (18, .int u18)] []) (hB31 : B31 ≤ 4040) (hB65 : B65 ≤ 4040) (hB92 : B92 ≤ 4040) (s0 : Int32) (M : Mem) (hb92 : k + 1 ≤ B92) (hn : n ≤ 6 * k) (hf : f_L_beats_b140 v1 v2 v3 v4 v5 v6 v9 v10 v11 v12 v13 v14 v16 v17 v18 v19 k31 k65 k92 s0 M = some (r, M')) : V X G Z M k n (QN X G (QcI G Zq r M') 4040 24240) 140 [(0, .ref (Z.1 0)), (1, .int v1), (2, .int v2), (3, .int v3), (4, .int v4), (5, .int v5), (6, .int v6), (7, .ref (Z.1 43)), (9, .int v9), (10, .int v10), (11, .int v11), (12, .int v12), (13, .int v13), (14, .int v14), (16, .int v16), (17, .int v17), (18, .int v18), (19, .int v19)] [.int s0] := by
  unfold f_L_beats_b140 at hf
  refine r_istore (L' := [(15, .int s0), (0, .ref (Z.1 0)), (1, .int v1), (2, .int v2), (3, .int v3), (4, .int v4), (5, .int v5), (6, .int v6), (7, .ref (Z.1 43)), (9, .int v9), (10, .int v10), (11, .int v11), (12, .int v12), (13, .int v13), (14, .int v14), (16, .int v16), (17, .int v17), (18, .int v18), (19, .int v19)]) hC dL_beats_140 (by decide) rfl ?_
  refine r_iload hC dL_beats_142 18 rfl ?_
  refine r_iload hC dL_beats_144 15 rfl ?_
  refine r_icmp_le 154 hC dL_beats_146 (by decide) (fun h => ?_) (fun h => ?_)
  · have hf := if_T hf h
    refine r_iload hC dL_beats_154 15 rfl ?_
    refine r_L [1, 2, 3, 4, 5, 6, 7, 8, 9, 10, 11, 12, 13, 14, 0, 16, 17] rfl ?_
    exact w_L_beats_b156 hC hz hZ h43 hzz v1 v2 v3 v4 v5 v6 v9 v10 v11 v12 v13 v14 s0 v17 v18 k31 k65 k92 hk31 hk65 hk92 (by omega) (by omega) (by omega) v16 _ (by omega) (by omega) hf
  · have hf := if_F hf h
    refine r_iload hC dL_beats_149 18 rfl ?_
    refine r_goto 156 hC dL_beats_151 (by decide) ?_
    refine r_L [1, 2, 3, 4, 5, 6, 7, 8, 9, 10, 11, 12, 13, 14, 0, 16, 17] rfl ?_
    exact w_L_beats_b156 hC hz hZ h43 hzz v1 v2 v3 v4 v5 v6 v9 v10 v11 v12 v13 v14 s0 v17 v18 k31 k65 k92 hk31 hk65 hk92 (by omega) (by omega) (by omega) v19 _ (by omega) (by omega) hf
set_option maxRecDepth 20000 in
set_option maxHeartbeats 1000000 in
theorem w_L_beats_b431 {X : XX} {G : GG} {Z : ZZ} {r : Int32} {M' : Mem} {Zq : ZZ} {B31 : Nat} {B65 : Nat} {k n : Nat} (hC : Cx X G RL cL_beats (some .boolean) 10 4040 24240 23) (hz : ZOk G Z) (hZ : ZM Z) (h43 : At Z 43 (dA 0 4)) (hzz : Sub G Z Zq) (v1 : Int32) (v2 : Int32) (v3 : Int32) (v4 : Int32) (v5 : Int32) (v6 : Int32) (v9 : Int32) (v10 : Int32) (v11 : Int32) (v12 : Int32) (v13 : Int32) (v14 : Int32) (v19 : Int32) (v21 : Int32) (k31 : Int32 → Int32 → Int32 → Int32 → Int32 → Int32 → Int32 → Mem → Option (Int32 × Mem)) (k65 : Int32 → Int32 → Int32 → Int32 → Int32 → Int32 → Mem → Option (Int32 × Mem)) (hk31 : ∀ (k n : Nat) (u2 : Int32) (u3 : Int32) (u4 : Int32) (u5 : Int32) (u6 : Int32) (u8 : Int32) (u9 : Int32) (M : Mem), k ≤ B31 → n ≤ 6 * k → k31 u2 u3 u4 u5 u6 u8 u9 M = some (r, M') → V X G Z M k n (QN X G (QcI G Zq r M') 4040 24240) 31 [(0, .ref (Z.1 0)), (1, .int v1), (2, .int u2), (3, .int u3), (4, .int u4), (5, .int u5), (6, .int u6), (7, .ref (Z.1 43)), (8, .int u8), (9, .int u9)] []) (hk65 : ∀ (k n : Nat) (u4 : Int32) (u5 : Int32) (u8 : Int32) (u11 : Int32) (u12 : Int32) (u13 : Int32) (M : Mem), k ≤ B65 → n ≤ 6 * k → k65 u4 u5 u8 u11 u12 u13 M = some (r, M') → V X G Z M k n (QN X G (QcI G Zq r M') 4040 24240) 65 [(0, .ref (Z.1 0)), (1, .int v1), (2, .int v2), (3, .int v3), (4, .int u4), (5, .int u5), (6, .int v6), (7, .ref (Z.1 43)), (8, .int u8), (9, .int v9), (10, .int v10), (11, .int u11), (12, .int u12), (13, .int u13)] []) (hB31 : B31 ≤ 4040) (hB65 : B65 ≤ 4040) (s0 : Int32) (M : Mem) (hb65 : k + 0 ≤ B65) (hn : n ≤ 6 * k) (hf : f_L_beats_b431 v1 v2 v3 v4 v5 v6 v9 v10 v11 v12 v13 v14 v19 v21 k31 k65 s0 M = some (r, M')) : V X G Z M k n (QN X G (QcI G Zq r M') 4040 24240) 431 [(0, .ref (Z.1 0)), (1, .int v1), (2, .int v2), (3, .int v3), (4, .int v4), (5, .int v5), (6, .int v6), (7, .ref (Z.1 43)), (9, .int v9), (10, .int v10), (11, .int v11), (12, .int v12), (13, .int v13), (14, .int v14), (19, .int v19), (21, .int v21)] [.int s0] := by
  unfold f_L_beats_b431 at hf
  refine r_istore (L' := [(8, .int s0), (0, .ref (Z.1 0)), (1, .int v1), (2, .int v2), (3, .int v3), (4, .int v4), (5, .int v5), (6, .int v6), (7, .ref (Z.1 43)), (9, .int v9), (10, .int v10), (11, .int v11), (12, .int v12), (13, .int v13), (14, .int v14), (19, .int v19), (21, .int v21)]) hC dL_beats_431 (by decide) rfl ?_
  refine r_iload hC dL_beats_433 11 rfl ?_
  refine r_iload hC dL_beats_435 14 rfl ?_
  refine r_iadd hC dL_beats_437 ?_
  refine r_istore (L' := [(11, .int (v11 + v14)), (8, .int s0), (0, .ref (Z.1 0)), (1, .int v1), (2, .int v2), (3, .int v3), (4, .int v4), (5, .int v5), (6, .int v6), (7, .ref (Z.1 43)), (9, .int v9), (10, .int v10), (12, .int v12), (13, .int v13), (14, .int v14), (19, .int v19), (21, .int v21)]) hC dL_beats_438 (by decide) rfl ?_
  refine r_iload hC dL_beats_440 12 rfl ?_
  refine r_iconst (v := 5) hC dL_beats_442 rfl ?_
  refine r_iload hC dL_beats_443 15 rfl ?_
  refine r_imul hC dL_beats_445 ?_
  refine r_iload hC dL_beats_446 16 rfl ?_
  refine r_iadd hC dL_beats_448 ?_
  refine r_iadd hC dL_beats_449 ?_
  refine r_istore (L' := [(12, .int (v12 + ((5 * v19) + v21))), (11, .int (v11 + v14)), (8, .int s0), (0, .ref (Z.1 0)), (1, .int v1), (2, .int v2), (3, .int v3), (4, .int v4), (5, .int v5), (6, .int v6), (7, .ref (Z.1 43)), (9, .int v9), (10, .int v10), (13, .int v13), (14, .int v14), (19, .int v19), (21, .int v21)]) hC dL_beats_450 (by decide) rfl ?_
  refine r_iload hC dL_beats_452 7 rfl ?_
  refine r_iload hC dL_beats_454 15 rfl ?_
  refine r_iadd hC dL_beats_456 ?_
  refine r_istore (L' := [(4, .int (v4 + v19)), (12, .int (v12 + ((5 * v19) + v21))), (11, .int (v11 + v14)), (8, .int s0), (0, .ref (Z.1 0)), (1, .int v1), (2, .int v2), (3, .int v3), (5, .int v5), (6, .int v6), (7, .ref (Z.1 43)), (9, .int v9), (10, .int v10), (13, .int v13), (14, .int v14), (19, .int v19), (21, .int v21)]) hC dL_beats_457 (by decide) rfl ?_
  refine r_iload hC dL_beats_459 8 rfl ?_
  refine r_iload hC dL_beats_461 16 rfl ?_
  refine r_iadd hC dL_beats_463 ?_
  refine r_istore (L' := [(5, .int (v5 + v21)), (4, .int (v4 + v19)), (12, .int (v12 + ((5 * v19) + v21))), (11, .int (v11 + v14)), (8, .int s0), (0, .ref (Z.1 0)), (1, .int v1), (2, .int v2), (3, .int v3), (6, .int v6), (7, .ref (Z.1 43)), (9, .int v9), (10, .int v10), (13, .int v13), (14, .int v14), (19, .int v19), (21, .int v21)]) hC dL_beats_464 (by decide) rfl ?_
  refine r_iinc (v := v13 + 1) (L' := [(13, .int (v13 + 1)), (5, .int (v5 + v21)), (4, .int (v4 + v19)), (12, .int (v12 + ((5 * v19) + v21))), (11, .int (v11 + v14)), (8, .int s0), (0, .ref (Z.1 0)), (1, .int v1), (2, .int v2), (3, .int v3), (6, .int v6), (7, .ref (Z.1 43)), (9, .int v9), (10, .int v10), (14, .int v14), (19, .int v19), (21, .int v21)]) hC dL_beats_466 13 rfl rfl (by decide) rfl ?_
  refine r_goto 65 hC dL_beats_469 (by decide) ?_
  refine r_L [6, 7, 8, 9, 2, 1, 10, 11, 5, 12, 13, 4, 3, 0] rfl ?_
  exact hk65 _ _ _ _ _ _ _ _ _ (by omega) (by omega) hf
set_option maxRecDepth 20000 in
set_option maxHeartbeats 1000000 in
theorem w_L_beats_b430 {X : XX} {G : GG} {Z : ZZ} {r : Int32} {M' : Mem} {Zq : ZZ} {B31 : Nat} {B65 : Nat} {k n : Nat} (hC : Cx X G RL cL_beats (some .boolean) 10 4040 24240 23) (hz : ZOk G Z) (hZ : ZM Z) (h43 : At Z 43 (dA 0 4)) (hzz : Sub G Z Zq) (v1 : Int32) (v2 : Int32) (v3 : Int32) (v4 : Int32) (v5 : Int32) (v6 : Int32) (v9 : Int32) (v10 : Int32) (v11 : Int32) (v12 : Int32) (v13 : Int32) (v14 : Int32) (v19 : Int32) (v21 : Int32) (k31 : Int32 → Int32 → Int32 → Int32 → Int32 → Int32 → Int32 → Mem → Option (Int32 × Mem)) (k65 : Int32 → Int32 → Int32 → Int32 → Int32 → Int32 → Mem → Option (Int32 × Mem)) (hk31 : ∀ (k n : Nat) (u2 : Int32) (u3 : Int32) (u4 : Int32) (u5 : Int32) (u6 : Int32) (u8 : Int32) (u9 : Int32) (M : Mem), k ≤ B31 → n ≤ 6 * k → k31 u2 u3 u4 u5 u6 u8 u9 M = some (r, M') → V X G Z M k n (QN X G (QcI G Zq r M') 4040 24240) 31 [(0, .ref (Z.1 0)), (1, .int v1), (2, .int u2), (3, .int u3), (4, .int u4), (5, .int u5), (6, .int u6), (7, .ref (Z.1 43)), (8, .int u8), (9, .int u9)] []) (hk65 : ∀ (k n : Nat) (u4 : Int32) (u5 : Int32) (u8 : Int32) (u11 : Int32) (u12 : Int32) (u13 : Int32) (M : Mem), k ≤ B65 → n ≤ 6 * k → k65 u4 u5 u8 u11 u12 u13 M = some (r, M') → V X G Z M k n (QN X G (QcI G Zq r M') 4040 24240) 65 [(0, .ref (Z.1 0)), (1, .int v1), (2, .int v2), (3, .int v3), (4, .int u4), (5, .int u5), (6, .int v6), (7, .ref (Z.1 43)), (8, .int u8), (9, .int v9), (10, .int v10), (11, .int u11), (12, .int u12), (13, .int u13)] []) (hB31 : B31 ≤ 4040) (hB65 : B65 ≤ 4040)  (M : Mem) (hb65 : k + 0 ≤ B65) (hn : n ≤ 6 * k) (hf : f_L_beats_b430 v1 v2 v3 v4 v5 v6 v9 v10 v11 v12 v13 v14 v19 v21 k31 k65 M = some (r, M')) : V X G Z M k n (QN X G (QcI G Zq r M') 4040 24240) 430 [(0, .ref (Z.1 0)), (1, .int v1), (2, .int v2), (3, .int v3), (4, .int v4), (5, .int v5), (6, .int v6), (7, .ref (Z.1 43)), (9, .int v9), (10, .int v10), (11, .int v11), (12, .int v12), (13, .int v13), (14, .int v14), (19, .int v19), (21, .int v21)] [] := by
  unfold f_L_beats_b430 at hf
  refine r_iconst (v := 0) hC dL_beats_430 rfl ?_
  exact w_L_beats_b431 hC hz hZ h43 hzz v1 v2 v3 v4 v5 v6 v9 v10 v11 v12 v13 v14 v19 v21 k31 k65 hk31 hk65 (by omega) (by omega) 0 _ (by omega) (by omega) hf
set_option maxRecDepth 20000 in
set_option maxHeartbeats 1000000 in
theorem w_L_beats_b394 {X : XX} {G : GG} {Z : ZZ} {r : Int32} {M' : Mem} {Zq : ZZ} {B31 : Nat} {B65 : Nat} {k n : Nat} (hC : Cx X G RL cL_beats (some .boolean) 10 4040 24240 23) (hz : ZOk G Z) (hZ : ZM Z) (h43 : At Z 43 (dA 0 4)) (hzz : Sub G Z Zq) (v1 : Int32) (v2 : Int32) (v3 : Int32) (v4 : Int32) (v5 : Int32) (v6 : Int32) (v9 : Int32) (v10 : Int32) (v11 : Int32) (v12 : Int32) (v13 : Int32) (v14 : Int32) (v19 : Int32) (v21 : Int32) (k31 : Int32 → Int32 → Int32 → Int32 → Int32 → Int32 → Int32 → Mem → Option (Int32 × Mem)) (k65 : Int32 → Int32 → Int32 → Int32 → Int32 → Int32 → Mem → Option (Int32 × Mem)) (hk31 : ∀ (k n : Nat) (u2 : Int32) (u3 : Int32) (u4 : Int32) (u5 : Int32) (u6 : Int32) (u8 : Int32) (u9 : Int32) (M : Mem), k ≤ B31 → n ≤ 6 * k → k31 u2 u3 u4 u5 u6 u8 u9 M = some (r, M') → V X G Z M k n (QN X G (QcI G Zq r M') 4040 24240) 31 [(0, .ref (Z.1 0)), (1, .int v1), (2, .int u2), (3, .int u3), (4, .int u4), (5, .int u5), (6, .int u6), (7, .ref (Z.1 43)), (8, .int u8), (9, .int u9)] []) (hk65 : ∀ (k n : Nat) (u4 : Int32) (u5 : Int32) (u8 : Int32) (u11 : Int32) (u12 : Int32) (u13 : Int32) (M : Mem), k ≤ B65 → n ≤ 6 * k → k65 u4 u5 u8 u11 u12 u13 M = some (r, M') → V X G Z M k n (QN X G (QcI G Zq r M') 4040 24240) 65 [(0, .ref (Z.1 0)), (1, .int v1), (2, .int v2), (3, .int v3), (4, .int u4), (5, .int u5), (6, .int v6), (7, .ref (Z.1 43)), (8, .int u8), (9, .int v9), (10, .int v10), (11, .int u11), (12, .int u12), (13, .int u13)] []) (hB31 : B31 ≤ 4040) (hB65 : B65 ≤ 4040) (s0 : Int32) (s1 : Int32) (s2 : Int32) (M : Mem) (hb65 : k + 2 ≤ B65) (hn : n ≤ 6 * k) (hf : f_L_beats_b394 v1 v2 v3 v4 v5 v6 v9 v10 v11 v12 v13 v14 v19 v21 k31 k65 s0 s1 s2 M = some (r, M')) : V X G Z M k n (QN X G (QcI G Zq r M') 4040 24240) 394 [(0, .ref (Z.1 0)), (1, .int v1), (2, .int v2), (3, .int v3), (4, .int v4), (5, .int v5), (6, .int v6), (7, .ref (Z.1 43)), (9, .int v9), (10, .int v10), (11, .int v11), (12, .int v12), (13, .int v13), (14, .int v14), (19, .int v19), (21, .int v21)] [.int s0, .int s1, .int s2] := by
  unfold f_L_beats_b394 at hf
  refine r_iadd hC dL_beats_394 ?_
  refine r_icmp_gt 430 hC dL_beats_395 (by decide) (fun h => ?_) (fun h => ?_)
  · have hf := if_T hf h
    exact w_L_beats_b430 hC hz hZ h43 hzz v1 v2 v3 v4 v5 v6 v9 v10 v11 v12 v13 v14 v19 v21 k31 k65 hk31 hk65 (by omega) (by omega)  _ (by omega) (by omega) hf
  · have hf := if_F hf h
    refine r_aload_n hC dL_beats_398 0 rfl ?_
    refine r_iload hC dL_beats_399 12 rfl ?_
    refine r_iload hC dL_beats_401 8 rfl ?_
    refine r_iconst (v := 3) hC dL_beats_403 rfl ?_
    refine r_wcall [] (fun r M1 h => c_L_tryHand (cx_st hC) hz hZ v13 v9 3 _ r M1 h) hf cs_L_158 hC rfl rfl (by decide) (by decide) (Nat.le_of_ble_eq_true rfl) (by omega) (by omega) dL_beats_404 (fun x83 M84 hf => ?_)
    refine r_iload hC dL_beats_407 14 rfl ?_
    refine r_icmp_ne 430 hC dL_beats_409 (by decide) (fun h => ?_) (fun h => ?_)
    · have hf := if_F hf h
      exact w_L_beats_b430 hC hz hZ h43 hzz v1 v2 v3 v4 v5 v6 v9 v10 v11 v12 v13 v14 v19 v21 k31 k65 hk31 hk65 (by omega) (by omega)  _ (by omega) (by omega) hf
    · have hf := if_T hf h
      refine r_aload_n hC dL_beats_412 0 rfl ?_
      refine r_iload hC dL_beats_413 12 rfl ?_
      refine r_iload hC dL_beats_415 8 rfl ?_
      refine r_iconst (v := 4) hC dL_beats_417 rfl ?_
      refine r_wcall [] (fun r M1 h => c_L_tryHand (cx_st hC) hz hZ v13 v9 4 _ r M1 h) hf cs_L_158 hC rfl rfl (by decide) (by decide) (Nat.le_of_ble_eq_true rfl) (by omega) (by omega) dL_beats_418 (fun x85 M86 hf => ?_)
      refine r_iload hC dL_beats_421 15 rfl ?_
      refine r_icmp_ne 430 hC dL_beats_423 (by decide) (fun h => ?_) (fun h => ?_)
      · have hf := if_F hf h
        exact w_L_beats_b430 hC hz hZ h43 hzz v1 v2 v3 v4 v5 v6 v9 v10 v11 v12 v13 v14 v19 v21 k31 k65 hk31 hk65 (by omega) (by omega)  _ (by omega) (by omega) hf
      · have hf := if_T hf h
        refine r_iconst (v := 1) hC dL_beats_426 rfl ?_
        refine r_goto 431 hC dL_beats_427 (by decide) ?_
        exact w_L_beats_b431 hC hz hZ h43 hzz v1 v2 v3 v4 v5 v6 v9 v10 v11 v12 v13 v14 v19 v21 k31 k65 hk31 hk65 (by omega) (by omega) 1 _ (by omega) (by omega) hf
set_option maxRecDepth 20000 in
set_option maxHeartbeats 1000000 in
theorem w_L_beats_b345 {X : XX} {G : GG} {Z : ZZ} {r : Int32} {M' : Mem} {Zq : ZZ} {B31 : Nat} {B65 : Nat} {k n : Nat} (hC : Cx X G RL cL_beats (some .boolean) 10 4040 24240 23) (hz : ZOk G Z) (hZ : ZM Z) (h43 : At Z 43 (dA 0 4)) (hzz : Sub G Z Zq) (v1 : Int32) (v2 : Int32) (v3 : Int32) (v4 : Int32) (v5 : Int32) (v6 : Int32) (v9 : Int32) (v10 : Int32) (v11 : Int32) (v12 : Int32) (v13 : Int32) (v14 : Int32) (v17 : Int32) (v18 : Int32) (v19 : Int32) (v21 : Int32) (k31 : Int32 → Int32 → Int32 → Int32 → Int32 → Int32 → Int32 → Mem → Option (Int32 × Mem)) (k65 : Int32 → Int32 → Int32 → Int32 → Int32 → Int32 → Mem → Option (Int32 × Mem)) (hk31 : ∀ (k n : Nat) (u2 : Int32) (u3 : Int32) (u4 : Int32) (u5 : Int32) (u6 : Int32) (u8 : Int32) (u9 : Int32) (M : Mem), k ≤ B31 → n ≤ 6 * k → k31 u2 u3 u4 u5 u6 u8 u9 M = some (r, M') → V X G Z M k n (QN X G (QcI G Zq r M') 4040 24240) 31 [(0, .ref (Z.1 0)), (1, .int v1), (2, .int u2), (3, .int u3), (4, .int u4), (5, .int u5), (6, .int u6), (7, .ref (Z.1 43)), (8, .int u8), (9, .int u9)] []) (hk65 : ∀ (k n : Nat) (u4 : Int32) (u5 : Int32) (u8 : Int32) (u11 : Int32) (u12 : Int32) (u13 : Int32) (M : Mem), k ≤ B65 → n ≤ 6 * k → k65 u4 u5 u8 u11 u12 u13 M = some (r, M') → V X G Z M k n (QN X G (QcI G Zq r M') 4040 24240) 65 [(0, .ref (Z.1 0)), (1, .int v1), (2, .int v2), (3, .int v3), (4, .int u4), (5, .int u5), (6, .int v6), (7, .ref (Z.1 43)), (8, .int u8), (9, .int v9), (10, .int v10), (11, .int u11), (12, .int u12), (13, .int u13)] []) (hB31 : B31 ≤ 4040) (hB65 : B65 ≤ 4040) (s0 : Int32) (s1 : Int32) (M : Mem) (hb65 : k + 6 ≤ B65) (hn : n ≤ 6 * k) (hf : f_L_beats_b345 v1 v2 v3 v4 v5 v6 v9 v10 v11 v12 v13 v14 v17 v18 v19 v21 k31 k65 s0 s1 M = some (r, M')) : V X G Z M k n (QN X G (QcI G Zq r M') 4040 24240) 345 [(0, .ref (Z.1 0)), (1, .int v1), (2, .int v2), (3, .int v3), (4, .int v4), (5, .int v5), (6, .int v6), (7, .ref (Z.1 43)), (9, .int v9), (10, .int v10), (11, .int v11), (12, .int v12), (13, .int v13), (14, .int v14), (17, .int v17), (18, .int v18), (19, .int v19), (21, .int v21)] [.int s0, .int s1] := by
  unfold f_L_beats_b345 at hf
  refine r_icmp_ne 430 hC dL_beats_345 (by decide) (fun h => ?_) (fun h => ?_)
  · have hf := if_F hf h
    refine r_L [0, 1, 2, 3, 4, 5, 6, 7, 8, 9, 10, 11, 12, 13, 16, 17] rfl ?_
    exact w_L_beats_b430 hC hz hZ h43 hzz v1 v2 v3 v4 v5 v6 v9 v10 v11 v12 v13 v14 v19 v21 k31 k65 hk31 hk65 (by omega) (by omega)  _ (by omega) (by omega) hf
  · have hf := if_T hf h
    refine r_aload_n hC dL_beats_348 0 rfl ?_
    refine r_iload hC dL_beats_349 12 rfl ?_
    refine r_iload hC dL_beats_351 8 rfl ?_
    refine r_iconst (v := 2) hC dL_beats_353 rfl ?_
    refine r_wcall [] (fun r M1 h => c_L_tryHand (cx_st hC) hz hZ v13 v9 2 _ r M1 h) hf cs_L_158 hC rfl rfl (by decide) (by decide) (Nat.le_of_ble_eq_true rfl) (by omega) (by omega) dL_beats_354 (fun x75 M76 hf => ?_)
    refine r_iload hC dL_beats_357 15 rfl ?_
    refine r_icmp_ne 430 hC dL_beats_359 (by decide) (fun h => ?_) (fun h => ?_)
    · have hf := if_F hf h
      refine r_L [0, 1, 2, 3, 4, 5, 6, 7, 8, 9, 10, 11, 12, 13, 16, 17] rfl ?_
      exact w_L_beats_b430 hC hz hZ h43 hzz v1 v2 v3 v4 v5 v6 v9 v10 v11 v12 v13 v14 v19 v21 k31 k65 hk31 hk65 (by omega) (by omega)  _ (by omega) (by omega) hf
    · have hf := if_T hf h
      refine r_iload hC dL_beats_362 13 rfl ?_
      refine r_aload_n hC dL_beats_364 0 rfl ?_
      refine r_iconst (v := 2) hC dL_beats_365 rfl ?_
      refine r_wcall [.int v14] (fun r M1 h => c_L_tryAbout (cx_st hC) hz hZ 2 _ r M1 h) hf cs_L_115 hC rfl rfl (by decide) (by decide) (Nat.le_of_ble_eq_true rfl) (by omega) (by omega) dL_beats_366 (fun x77 M78 hf => ?_)
      refine r_icmp_gt 430 hC dL_beats_369 (by decide) (fun h => ?_) (fun h => ?_)
      · have hf := if_T hf h
        refine r_L [0, 1, 2, 3, 4, 5, 6, 7, 8, 9, 10, 11, 12, 13, 16, 17] rfl ?_
        exact w_L_beats_b430 hC hz hZ h43 hzz v1 v2 v3 v4 v5 v6 v9 v10 v11 v12 v13 v14 v19 v21 k31 k65 hk31 hk65 (by omega) (by omega)  _ (by omega) (by omega) hf
      · have hf := if_F hf h
        refine r_iload hC dL_beats_372 15 rfl ?_
        refine r_aload_n hC dL_beats_374 0 rfl ?_
        refine r_iload hC dL_beats_375 12 rfl ?_
        refine r_wcall [.int v18] (fun r M1 h => c_L_tryAbout (cx_st hC) hz hZ v13 _ r M1 h) hf cs_L_115 hC rfl rfl (by decide) (by decide) (Nat.le_of_ble_eq_true rfl) (by omega) (by omega) dL_beats_377 (fun x79 M80 hf => ?_)
        refine r_iload hC dL_beats_380 14 rfl ?_
        refine r_if_eq 389 hC dL_beats_382 (by decide) (fun h => ?_) (fun h => ?_)
        · have hf := if_T hf h
          refine r_aload_n hC dL_beats_389 0 rfl ?_
          refine r_iconst (v := 3) hC dL_beats_390 rfl ?_
          refine r_wcall [.int x79, .int v18] (fun r M1 h => c_L_tryAbout (cx_st hC) hz hZ 3 _ r M1 h) hf cs_L_115 hC rfl rfl (by decide) (by decide) (Nat.le_of_ble_eq_true rfl) (by omega) (by omega) dL_beats_391 (fun x81 M82 hf => ?_)
          refine r_L [0, 1, 2, 3, 4, 5, 6, 7, 8, 9, 10, 11, 12, 13, 16, 17] rfl ?_
          exact w_L_beats_b394 hC hz hZ h43 hzz v1 v2 v3 v4 v5 v6 v9 v10 v11 v12 v13 v14 v19 v21 k31 k65 hk31 hk65 (by omega) (by omega) x81 x79 v18 _ (by omega) (by omega) hf
        · have hf := if_F hf h
          refine r_iconst (v := 0) hC dL_beats_385 rfl ?_
          refine r_goto 394 hC dL_beats_386 (by decide) ?_
          refine r_L [0, 1, 2, 3, 4, 5, 6, 7, 8, 9, 10, 11, 12, 13, 16, 17] rfl ?_
          exact w_L_beats_b394 hC hz hZ h43 hzz v1 v2 v3 v4 v5 v6 v9 v10 v11 v12 v13 v14 v19 v21 k31 k65 hk31 hk65 (by omega) (by omega) 0 x79 v18 _ (by omega) (by omega) hf
set_option maxRecDepth 20000 in
set_option maxHeartbeats 1000000 in
theorem w_L_beats_b321 {X : XX} {G : GG} {Z : ZZ} {r : Int32} {M' : Mem} {Zq : ZZ} {B31 : Nat} {B65 : Nat} {k n : Nat} (hC : Cx X G RL cL_beats (some .boolean) 10 4040 24240 23) (hz : ZOk G Z) (hZ : ZM Z) (h43 : At Z 43 (dA 0 4)) (hzz : Sub G Z Zq) (v1 : Int32) (v2 : Int32) (v3 : Int32) (v4 : Int32) (v5 : Int32) (v6 : Int32) (v9 : Int32) (v10 : Int32) (v11 : Int32) (v12 : Int32) (v13 : Int32) (v14 : Int32) (v15 : Int32) (v17 : Int32) (v18 : Int32) (v19 : Int32) (v21 : Int32) (k31 : Int32 → Int32 → Int32 → Int32 → Int32 → Int32 → Int32 → Mem → Option (Int32 × Mem)) (k65 : Int32 → Int32 → Int32 → Int32 → Int32 → Int32 → Mem → Option (Int32 × Mem)) (hk31 : ∀ (k n : Nat) (u2 : Int32) (u3 : Int32) (u4 : Int32) (u5 : Int32) (u6 : Int32) (u8 : Int32) (u9 : Int32) (M : Mem), k ≤ B31 → n ≤ 6 * k → k31 u2 u3 u4 u5 u6 u8 u9 M = some (r, M') → V X G Z M k n (QN X G (QcI G Zq r M') 4040 24240) 31 [(0, .ref (Z.1 0)), (1, .int v1), (2, .int u2), (3, .int u3), (4, .int u4), (5, .int u5), (6, .int u6), (7, .ref (Z.1 43)), (8, .int u8), (9, .int u9)] []) (hk65 : ∀ (k n : Nat) (u4 : Int32) (u5 : Int32) (u8 : Int32) (u11 : Int32) (u12 : Int32) (u13 : Int32) (M : Mem), k ≤ B65 → n ≤ 6 * k → k65 u4 u5 u8 u11 u12 u13 M = some (r, M') → V X G Z M k n (QN X G (QcI G Zq r M') 4040 24240) 65 [(0, .ref (Z.1 0)), (1, .int v1), (2, .int v2), (3, .int v3), (4, .int u4), (5, .int u5), (6, .int v6), (7, .ref (Z.1 43)), (8, .int u8), (9, .int v9), (10, .int v10), (11, .int u11), (12, .int u12), (13, .int u13)] []) (hB31 : B31 ≤ 4040) (hB65 : B65 ≤ 4040) (s0 : Int32) (s1 : Int32) (M : Mem) (hb65 : k + 7 ≤ B65) (hn : n ≤ 6 * k) (hf : f_L_beats_b321 v1 v2 v3 v4 v5 v6 v9 v10 v11 v12 v13 v14 v15 v17 v18 v19 v21 k31 k65 s0 s1 M = some (r, M')) : V X G Z M k n (QN X G (QcI G Zq r M') 4040 24240) 321 [(0, .ref (Z.1 0)), (1, .int v1), (2, .int v2), (3, .int v3), (4, .int v4), (5, .int v5), (6, .int v6), (7, .ref (Z.1 43)), (9, .int v9), (10, .int v10), (11, .int v11), (12, .int v12), (13, .int v13), (14, .int v14), (15, .int v15), (17, .int v17), (18, .int v18), (19, .int v19), (21, .int v21)] [.int s0, .int s1] := by
  unfold f_L_beats_b321 at hf
  refine r_icmp_ne 430 hC dL_beats_321 (by decide) (fun h => ?_) (fun h => ?_)
  · have hf := if_F hf h
    refine r_L [0, 1, 2, 3, 4, 5, 6, 7, 8, 9, 10, 11, 12, 13, 17, 18] rfl ?_
    exact w_L_beats_b430 hC hz hZ h43 hzz v1 v2 v3 v4 v5 v6 v9 v10 v11 v12 v13 v14 v19 v21 k31 k65 hk31 hk65 (by omega) (by omega)  _ (by omega) (by omega) hf
  · have hf := if_T hf h
    refine r_aload_n hC dL_beats_324 0 rfl ?_
    refine r_iload hC dL_beats_325 12 rfl ?_
    refine r_iload hC dL_beats_327 8 rfl ?_
    refine r_iconst (v := 1) hC dL_beats_329 rfl ?_
    refine r_wcall [] (fun r M1 h => c_L_tryHand (cx_st hC) hz hZ v13 v9 1 _ r M1 h) hf cs_L_158 hC rfl rfl (by decide) (by decide) (Nat.le_of_ble_eq_true rfl) (by omega) (by omega) dL_beats_330 (fun x73 M74 hf => ?_)
    refine r_iload hC dL_beats_333 13 rfl ?_
    refine r_if_ne 343 hC dL_beats_335 (by decide) (fun h => ?_) (fun h => ?_)
    · have hf := if_F hf h
      refine r_iload hC dL_beats_343 14 rfl ?_
      refine r_L [0, 1, 2, 3, 4, 5, 6, 7, 8, 9, 10, 11, 12, 13, 15, 16, 17, 18] rfl ?_
      exact w_L_beats_b345 hC hz hZ h43 hzz v1 v2 v3 v4 v5 v6 v9 v10 v11 v12 v13 v14 v17 v18 v19 v21 k31 k65 hk31 hk65 (by omega) (by omega) v15 x73 _ (by omega) (by omega) hf
    · have hf := if_T hf h
      refine r_bipush (v := (-9)) hC dL_beats_338 rfl ?_
      refine r_goto 345 hC dL_beats_340 (by decide) ?_
      refine r_L [0, 1, 2, 3, 4, 5, 6, 7, 8, 9, 10, 11, 12, 13, 15, 16, 17, 18] rfl ?_
      exact w_L_beats_b345 hC hz hZ h43 hzz v1 v2 v3 v4 v5 v6 v9 v10 v11 v12 v13 v14 v17 v18 v19 v21 k31 k65 hk31 hk65 (by omega) (by omega) (-9) x73 _ (by omega) (by omega) hf
set_option maxRecDepth 20000 in
set_option maxHeartbeats 1000000 in
theorem w_L_beats_b283 {X : XX} {G : GG} {Z : ZZ} {r : Int32} {M' : Mem} {Zq : ZZ} {B31 : Nat} {B65 : Nat} {k n : Nat} (hC : Cx X G RL cL_beats (some .boolean) 10 4040 24240 23) (hz : ZOk G Z) (hZ : ZM Z) (h43 : At Z 43 (dA 0 4)) (hzz : Sub G Z Zq) (v1 : Int32) (v2 : Int32) (v3 : Int32) (v4 : Int32) (v5 : Int32) (v6 : Int32) (v9 : Int32) (v10 : Int32) (v11 : Int32) (v12 : Int32) (v13 : Int32) (v14 : Int32) (v15 : Int32) (v17 : Int32) (v18 : Int32) (v19 : Int32) (k31 : Int32 → Int32 → Int32 → Int32 → Int32 → Int32 → Int32 → Mem → Option (Int32 × Mem)) (k65 : Int32 → Int32 → Int32 → Int32 → Int32 → Int32 → Mem → Option (Int32 × Mem)) (hk31 : ∀ (k n : Nat) (u2 : Int32) (u3 : Int32) (u4 : Int32) (u5 : Int32) (u6 : Int32) (u8 : Int32) (u9 : Int32) (M : Mem), k ≤ B31 → n ≤ 6 * k → k31 u2 u3 u4 u5 u6 u8 u9 M = some (r, M') → V X G Z M k n (QN X G (QcI G Zq r M') 4040 24240) 31 [(0, .ref (Z.1 0)), (1, .int v1), (2, .int u2), (3, .int u3), (4, .int u4), (5, .int u5), (6, .int u6), (7, .ref (Z.1 43)), (8, .int u8), (9, .int u9)] []) (hk65 : ∀ (k n : Nat) (u4 : Int32) (u5 : Int32) (u8 : Int32) (u11 : Int32) (u12 : Int32) (u13 : Int32) (M : Mem), k ≤ B65 → n ≤ 6 * k → k65 u4 u5 u8 u11 u12 u13 M = some (r, M') → V X G Z M k n (QN X G (QcI G Zq r M') 4040 24240) 65 [(0, .ref (Z.1 0)), (1, .int v1), (2, .int v2), (3, .int v3), (4, .int u4), (5, .int u5), (6, .int v6), (7, .ref (Z.1 43)), (8, .int u8), (9, .int v9), (10, .int v10), (11, .int u11), (12, .int u12), (13, .int u13)] []) (hB31 : B31 ≤ 4040) (hB65 : B65 ≤ 4040) (s0 : Int32) (M : Mem) (hb65 : k + 9 ≤ B65) (hn : n ≤ 6 * k) (hf : f_L_beats_b283 v1 v2 v3 v4 v5 v6 v9 v10 v11 v12 v13 v14 v15 v17 v18 v19 k31 k65 s0 M = some (r, M')) : V X G Z M k n (QN X G (QcI G Zq r M') 4040 24240) 283 [(0, .ref (Z.1 0)), (1, .int v1), (2, .int v2), (3, .int v3), (4, .int v4), (5, .int v5), (6, .int v6), (7, .ref (Z.1 43)), (9, .int v9), (10, .int v10), (11, .int v11), (12, .int v12), (13, .int v13), (14, .int v14), (15, .int v15), (17, .int v17), (18, .int v18), (19, .int v19)] [.int s0] := by
  unfold f_L_beats_b283 at hf
  refine r_istore (L' := [(21, .int s0), (0, .ref (Z.1 0)), (1, .int v1), (2, .int v2), (3, .int v3), (4, .int v4), (5, .int v5), (6, .int v6), (7, .ref (Z.1 43)), (9, .int v9), (10, .int v10), (11, .int v11), (12, .int v12), (13, .int v13), (14, .int v14), (15, .int v15), (17, .int v17), (18, .int v18), (19, .int v19)]) hC dL_beats_283 (by decide) rfl ?_
  refine r_aload_n hC dL_beats_285 1 rfl ?_
  refine r_iload hC dL_beats_286 13 rfl ?_
  refine r_iload hC dL_beats_288 9 rfl ?_
  refine r_iconst (v := 0) hC dL_beats_290 rfl ?_
  refine r_wcall [] (fun r M1 h => c_L_tryHand (cx_st hC) hz hZ v13 v9 0 _ r M1 h) hf cs_L_158 hC rfl rfl (by decide) (by decide) (Nat.le_of_ble_eq_true rfl) (by omega) (by omega) dL_beats_291 (fun x55 M56 hf => ?_)
  refine r_iload hC dL_beats_294 14 rfl ?_
  refine r_icmp_ne 430 hC dL_beats_296 (by decide) (fun h => ?_) (fun h => ?_)
  · have hf := if_F hf h
    refine r_L [1, 2, 3, 4, 5, 6, 7, 8, 9, 10, 11, 12, 13, 14, 18, 0] rfl ?_
    exact w_L_beats_b430 hC hz hZ h43 hzz v1 v2 v3 v4 v5 v6 v9 v10 v11 v12 v13 v14 v19 s0 k31 k65 hk31 hk65 (by omega) (by omega)  _ (by omega) (by omega) hf
  · have hf := if_T hf h
    refine r_iload hC dL_beats_299 14 rfl ?_
    refine r_iload hC dL_beats_301 13 rfl ?_
    refine r_if_ne 311 hC dL_beats_303 (by decide) (fun h => ?_) (fun h => ?_)
    · have hf := if_F hf h
      refine r_aload_n hC dL_beats_311 1 rfl ?_
      refine r_iload hC dL_beats_312 9 rfl ?_
      refine r_iconst (v := 3) hC dL_beats_314 rfl ?_
      refine r_wcall [.int v14] (fun r M1 h => c_L_tryBeat (cx_st hC) hz hZ v9 3 _ r M1 h) hf cs_L_161 hC rfl rfl (by decide) (by decide) (Nat.le_of_ble_eq_true rfl) (by omega) (by omega) dL_beats_315 (fun x57 M58 hf => ?_)
      refine r_iload hC dL_beats_318 10 rfl ?_
      refine r_isub hC dL_beats_320 ?_
      refine r_L [1, 2, 3, 4, 5, 6, 7, 8, 9, 10, 11, 12, 13, 14, 15, 16, 17, 18, 0] rfl ?_
      exact w_L_beats_b321 hC hz hZ h43 hzz v1 v2 v3 v4 v5 v6 v9 v10 v11 v12 v13 v14 v15 v17 v18 v19 s0 k31 k65 hk31 hk65 (by omega) (by omega) (x57 - v10) v14 _ (by omega) (by omega) hf
    · have hf := if_T hf h
      refine r_iload hC dL_beats_306 10 rfl ?_
      refine r_goto 321 hC dL_beats_308 (by decide) ?_
      refine r_L [1, 2, 3, 4, 5, 6, 7, 8, 9, 10, 11, 12, 13, 14, 15, 16, 17, 18, 0] rfl ?_
      exact w_L_beats_b321 hC hz hZ h43 hzz v1 v2 v3 v4 v5 v6 v9 v10 v11 v12 v13 v14 v15 v17 v18 v19 s0 k31 k65 hk31 hk65 (by omega) (by omega) v10 v14 _ (by omega) (by omega) hf
set_option maxRecDepth 20000 in
set_option maxHeartbeats 1000000 in
theorem w_L_beats_b259 {X : XX} {G : GG} {Z : ZZ} {r : Int32} {M' : Mem} {Zq : ZZ} {B31 : Nat} {B65 : Nat} {k n : Nat} (hC : Cx X G RL cL_beats (some .boolean) 10 4040 24240 23) (hz : ZOk G Z) (hZ : ZM Z) (h43 : At Z 43 (dA 0 4)) (hzz : Sub G Z Zq) (v1 : Int32) (v2 : Int32) (v3 : Int32) (v4 : Int32) (v5 : Int32) (v6 : Int32) (v9 : Int32) (v10 : Int32) (v11 : Int32) (v12 : Int32) (v13 : Int32) (v14 : Int32) (v15 : Int32) (v17 : Int32) (v18 : Int32) (v19 : Int32) (k31 : Int32 → Int32 → Int32 → Int32 → Int32 → Int32 → Int32 → Mem → Option (Int32 × Mem)) (k65 : Int32 → Int32 → Int32 → Int32 → Int32 → Int32 → Mem → Option (Int32 × Mem)) (hk31 : ∀ (k n : Nat) (u2 : Int32) (u3 : Int32) (u4 : Int32) (u5 : Int32) (u6 : Int32) (u8 : Int32) (u9 : Int32) (M : Mem), k ≤ B31 → n ≤ 6 * k → k31 u2 u3 u4 u5 u6 u8 u9 M = some (r, M') → V X G Z M k n (QN X G (QcI G Zq r M') 4040 24240) 31 [(0, .ref (Z.1 0)), (1, .int v1), (2, .int u2), (3, .int u3), (4, .int u4), (5, .int u5), (6, .int u6), (7, .ref (Z.1 43)), (8, .int u8), (9, .int u9)] []) (hk65 : ∀ (k n : Nat) (u4 : Int32) (u5 : Int32) (u8 : Int32) (u11 : Int32) (u12 : Int32) (u13 : Int32) (M : Mem), k ≤ B65 → n ≤ 6 * k → k65 u4 u5 u8 u11 u12 u13 M = some (r, M') → V X G Z M k n (QN X G (QcI G Zq r M') 4040 24240) 65 [(0, .ref (Z.1 0)), (1, .int v1), (2, .int v2), (3, .int v3), (4, .int u4), (5, .int u5), (6, .int v6), (7, .ref (Z.1 43)), (8, .int u8), (9, .int v9), (10, .int v10), (11, .int u11), (12, .int u12), (13, .int u13)] []) (hB31 : B31 ≤ 4040) (hB65 : B65 ≤ 4040)  (M : Mem) (hb65 : k + 9 ≤ B65) (hn : n ≤ 6 * k) (hf : f_L_beats_b259 v1 v2 v3 v4 v5 v6 v9 v10 v11 v12 v13 v14 v15 v17 v18 v19 k31 k65 M = some (r, M')) : V X G Z M k n (QN X G (QcI G Zq r M') 4040 24240) 259 [(0, .ref (Z.1 0)), (1, .int v1), (2, .int v2), (3, .int v3), (4, .int v4), (5, .int v5), (6, .int v6), (7, .ref (Z.1 43)), (9, .int v9), (10, .int v10), (11, .int v11), (12, .int v12), (13, .int v13), (14, .int v14), (15, .int v15), (17, .int v17), (18, .int v18), (19, .int v19)] [] := by
  unfold f_L_beats_b259 at hf
  refine r_iconst (v := 0) hC dL_beats_259 rfl ?_
  refine r_goto 283 hC dL_beats_260 (by decide) ?_
  exact w_L_beats_b283 hC hz hZ h43 hzz v1 v2 v3 v4 v5 v6 v9 v10 v11 v12 v13 v14 v15 v17 v18 v19 k31 k65 hk31 hk65 (by omega) (by omega) 0 _ (by omega) (by omega) hf
set_option maxRecDepth 20000 in
set_option maxHeartbeats 1000000 in
theorem w_L_beats_b245 {X : XX} {G : GG} {Z : ZZ} {r : Int32} {M' : Mem} {Zq : ZZ} {B31 : Nat} {B65 : Nat} {k n : Nat} (hC : Cx X G RL cL_beats (some .boolean) 10 4040 24240 23) (hz : ZOk G Z) (hZ : ZM Z) (h43 : At Z 43 (dA 0 4)) (hzz : Sub G Z Zq) (v1 : Int32) (v2 : Int32) (v3 : Int32) (v4 : Int32) (v5 : Int32) (v6 : Int32) (v9 : Int32) (v10 : Int32) (v11 : Int32) (v12 : Int32) (v13 : Int32) (v14 : Int32) (v15 : Int32) (v17 : Int32) (v18 : Int32) (v19 : Int32) (k31 : Int32 → Int32 → Int32 → Int32 → Int32 → Int32 → Int32 → Mem → Option (Int32 × Mem)) (k65 : Int32 → Int32 → Int32 → Int32 → Int32 → Int32 → Mem → Option (Int32 × Mem)) (hk31 : ∀ (k n : Nat) (u2 : Int32) (u3 : Int32) (u4 : Int32) (u5 : Int32) (u6 : Int32) (u8 : Int32) (u9 : Int32) (M : Mem), k ≤ B31 → n ≤ 6 * k → k31 u2 u3 u4 u5 u6 u8 u9 M = some (r, M') → V X G Z M k n (QN X G (QcI G Zq r M') 4040 24240) 31 [(0, .ref (Z.1 0)), (1, .int v1), (2, .int u2), (3, .int u3), (4, .int u4), (5, .int u5), (6, .int u6), (7, .ref (Z.1 43)), (8, .int u8), (9, .int u9)] []) (hk65 : ∀ (k n : Nat) (u4 : Int32) (u5 : Int32) (u8 : Int32) (u11 : Int32) (u12 : Int32) (u13 : Int32) (M : Mem), k ≤ B65 → n ≤ 6 * k → k65 u4 u5 u8 u11 u12 u13 M = some (r, M') → V X G Z M k n (QN X G (QcI G Zq r M') 4040 24240) 65 [(0, .ref (Z.1 0)), (1, .int v1), (2, .int v2), (3, .int v3), (4, .int u4), (5, .int u5), (6, .int v6), (7, .ref (Z.1 43)), (8, .int u8), (9, .int v9), (10, .int v10), (11, .int u11), (12, .int u12), (13, .int u13)] []) (hB31 : B31 ≤ 4040) (hB65 : B65 ≤ 4040) (s0 : Int32) (M : Mem) (hb65 : k + 9 ≤ B65) (hn : n ≤ 6 * k) (hf : f_L_beats_b245 v1 v2 v3 v4 v5 v6 v9 v10 v11 v12 v13 v14 v15 v17 v18 v19 k31 k65 s0 M = some (r, M')) : V X G Z M k n (QN X G (QcI G Zq r M') 4040 24240) 245 [(0, .ref (Z.1 0)), (1, .int v1), (2, .int v2), (3, .int v3), (4, .int v4), (5, .int v5), (6, .int v6), (7, .ref (Z.1 43)), (9, .int v9), (10, .int v10), (11, .int v11), (12, .int v12), (13, .int v13), (14, .int v14), (15, .int v15), (17, .int v17), (18, .int v18), (19, .int v19)] [.int s0] := by
  unfold f_L_beats_b245 at hf
  refine r_istore (L' := [(20, .int s0), (0, .ref (Z.1 0)), (1, .int v1), (2, .int v2), (3, .int v3), (4, .int v4), (5, .int v5), (6, .int v6), (7, .ref (Z.1 43)), (9, .int v9), (10, .int v10), (11, .int v11), (12, .int v12), (13, .int v13), (14, .int v14), (15, .int v15), (17, .int v17), (18, .int v18), (19, .int v19)]) hC dL_beats_245 (by decide) rfl ?_
  refine r_iload hC dL_beats_247 14 rfl ?_
  refine r_if_eq 259 hC dL_beats_249 (by decide) (fun h => ?_) (fun h => ?_)
  · have hf := if_T hf h
    refine r_L [1, 2, 3, 4, 5, 6, 7, 8, 9, 10, 11, 12, 13, 14, 15, 16, 17, 18] rfl ?_
    exact w_L_beats_b259 hC hz hZ h43 hzz v1 v2 v3 v4 v5 v6 v9 v10 v11 v12 v13 v14 v15 v17 v18 v19 k31 k65 hk31 hk65 (by omega) (by omega)  _ (by omega) (by omega) hf
  · have hf := if_F hf h
    refine r_iload hC dL_beats_252 0 rfl ?_
    refine r_bipush (v := (-9)) hC dL_beats_254 rfl ?_
    refine r_icmp_ne 263 hC dL_beats_256 (by decide) (fun h => ?_) (fun h => ?_)
    · have hf := if_F hf h
      refine r_iload hC dL_beats_263 15 rfl ?_
      refine r_iload hC dL_beats_265 0 rfl ?_
      refine r_icmp_le 278 hC dL_beats_267 (by decide) (fun h => ?_) (fun h => ?_)
      · have hf := if_T hf h
        refine r_iload hC dL_beats_278 0 rfl ?_
        refine r_iload hC dL_beats_280 15 rfl ?_
        refine r_isub hC dL_beats_282 ?_
        refine r_L [1, 2, 3, 4, 5, 6, 7, 8, 9, 10, 11, 12, 13, 14, 15, 16, 17, 18] rfl ?_
        exact w_L_beats_b283 hC hz hZ h43 hzz v1 v2 v3 v4 v5 v6 v9 v10 v11 v12 v13 v14 v15 v17 v18 v19 k31 k65 hk31 hk65 (by omega) (by omega) (s0 - v15) _ (by omega) (by omega) hf
      · have hf := if_F hf h
        refine r_iload hC dL_beats_270 15 rfl ?_
        refine r_iload hC dL_beats_272 0 rfl ?_
        refine r_isub hC dL_beats_274 ?_
        refine r_goto 283 hC dL_beats_275 (by decide) ?_
        refine r_L [1, 2, 3, 4, 5, 6, 7, 8, 9, 10, 11, 12, 13, 14, 15, 16, 17, 18] rfl ?_
        exact w_L_beats_b283 hC hz hZ h43 hzz v1 v2 v3 v4 v5 v6 v9 v10 v11 v12 v13 v14 v15 v17 v18 v19 k31 k65 hk31 hk65 (by omega) (by omega) (v15 - s0) _ (by omega) (by omega) hf
    · have hf := if_T hf h
      refine r_L [1, 2, 3, 4, 5, 6, 7, 8, 9, 10, 11, 12, 13, 14, 15, 16, 17, 18] rfl ?_
      exact w_L_beats_b259 hC hz hZ h43 hzz v1 v2 v3 v4 v5 v6 v9 v10 v11 v12 v13 v14 v15 v17 v18 v19 k31 k65 hk31 hk65 (by omega) (by omega)  _ (by omega) (by omega) hf
set_option maxRecDepth 20000 in
set_option maxHeartbeats 1000000 in
theorem w_L_beats_b222 {X : XX} {G : GG} {Z : ZZ} {r : Int32} {M' : Mem} {Zq : ZZ} {B31 : Nat} {B65 : Nat} {k n : Nat} (hC : Cx X G RL cL_beats (some .boolean) 10 4040 24240 23) (hz : ZOk G Z) (hZ : ZM Z) (h43 : At Z 43 (dA 0 4)) (hzz : Sub G Z Zq) (v1 : Int32) (v2 : Int32) (v3 : Int32) (v4 : Int32) (v5 : Int32) (v6 : Int32) (v9 : Int32) (v10 : Int32) (v11 : Int32) (v12 : Int32) (v13 : Int32) (v14 : Int32) (v15 : Int32) (v17 : Int32) (v18 : Int32) (k31 : Int32 → Int32 → Int32 → Int32 → Int32 → Int32 → Int32 → Mem → Option (Int32 × Mem)) (k65 : Int32 → Int32 → Int32 → Int32 → Int32 → Int32 → Mem → Option (Int32 × Mem)) (hk31 : ∀ (k n : Nat) (u2 : Int32) (u3 : Int32) (u4 : Int32) (u5 : Int32) (u6 : Int32) (u8 : Int32) (u9 : Int32) (M : Mem), k ≤ B31 → n ≤ 6 * k → k31 u2 u3 u4 u5 u6 u8 u9 M = some (r, M') → V X G Z M k n (QN X G (QcI G Zq r M') 4040 24240) 31 [(0, .ref (Z.1 0)), (1, .int v1), (2, .int u2), (3, .int u3), (4, .int u4), (5, .int u5), (6, .int u6), (7, .ref (Z.1 43)), (8, .int u8), (9, .int u9)] []) (hk65 : ∀ (k n : Nat) (u4 : Int32) (u5 : Int32) (u8 : Int32) (u11 : Int32) (u12 : Int32) (u13 : Int32) (M : Mem), k ≤ B65 → n ≤ 6 * k → k65 u4 u5 u8 u11 u12 u13 M = some (r, M') → V X G Z M k n (QN X G (QcI G Zq r M') 4040 24240) 65 [(0, .ref (Z.1 0)), (1, .int v1), (2, .int v2), (3, .int v3), (4, .int u4), (5, .int u5), (6, .int v6), (7, .ref (Z.1 43)), (8, .int u8), (9, .int v9), (10, .int v10), (11, .int u11), (12, .int u12), (13, .int u13)] []) (hB31 : B31 ≤ 4040) (hB65 : B65 ≤ 4040) (s0 : Int32) (M : Mem) (hb65 : k + 10 ≤ B65) (hn : n ≤ 6 * k) (hf : f_L_beats_b222 v1 v2 v3 v4 v5 v6 v9 v10 v11 v12 v13 v14 v15 v17 v18 k31 k65 s0 M = some (r, M')) : V X G Z M k n (QN X G (QcI G Zq r M') 4040 24240) 222 [(0, .ref (Z.1 0)), (1, .int v1), (2, .int v2), (3, .int v3), (4, .int v4), (5, .int v5), (6, .int v6), (7, .ref (Z.1 43)), (9, .int v9), (10, .int v10), (11, .int v11), (12, .int v12), (13, .int v13), (14, .int v14), (15, .int v15), (17, .int v17), (18, .int v18)] [.int s0] := by
  unfold f_L_beats_b222 at hf
  refine r_istore (L' := [(19, .int s0), (0, .ref (Z.1 0)), (1, .int v1), (2, .int v2), (3, .int v3), (4, .int v4), (5, .int v5), (6, .int v6), (7, .ref (Z.1 43)), (9, .int v9), (10, .int v10), (11, .int v11), (12, .int v12), (13, .int v13), (14, .int v14), (15, .int v15), (17, .int v17), (18, .int v18)]) hC dL_beats_222 (by decide) rfl ?_
  refine r_iload hC dL_beats_224 9 rfl ?_
  refine r_if_ne 234 hC dL_beats_226 (by decide) (fun h => ?_) (fun h => ?_)
  · have hf := if_F hf h
    refine r_aload_n hC dL_beats_234 1 rfl ?_
    refine r_iload hC dL_beats_235 13 rfl ?_
    refine r_iload hC dL_beats_237 9 rfl ?_
    refine r_iconst (v := 1) hC dL_beats_239 rfl ?_
    refine r_isub hC dL_beats_240 ?_
    refine r_iconst (v := 1) hC dL_beats_241 rfl ?_
    refine r_wcall [] (fun r M1 h => c_L_tryHand (cx_st hC) hz hZ v13 (v9 - 1) 1 _ r M1 h) hf cs_L_158 hC rfl rfl (by decide) (by decide) (Nat.le_of_ble_eq_true rfl) (by omega) (by omega) dL_beats_242 (fun x43 M44 hf => ?_)
    refine r_L [1, 2, 3, 4, 5, 6, 7, 8, 9, 10, 11, 12, 13, 14, 15, 16, 17, 0] rfl ?_
    exact w_L_beats_b245 hC hz hZ h43 hzz v1 v2 v3 v4 v5 v6 v9 v10 v11 v12 v13 v14 v15 v17 v18 s0 k31 k65 hk31 hk65 (by omega) (by omega) x43 _ (by omega) (by omega) hf
  · have hf := if_T hf h
    refine r_bipush (v := (-9)) hC dL_beats_229 rfl ?_
    refine r_goto 245 hC dL_beats_231 (by decide) ?_
    refine r_L [1, 2, 3, 4, 5, 6, 7, 8, 9, 10, 11, 12, 13, 14, 15, 16, 17, 0] rfl ?_
    exact w_L_beats_b245 hC hz hZ h43 hzz v1 v2 v3 v4 v5 v6 v9 v10 v11 v12 v13 v14 v15 v17 v18 s0 k31 k65 hk31 hk65 (by omega) (by omega) (-9) _ (by omega) (by omega) hf
set_option maxRecDepth 20000 in
set_option maxHeartbeats 1000000 in
theorem w_L_beats_b204 {X : XX} {G : GG} {Z : ZZ} {r : Int32} {M' : Mem} {Zq : ZZ} {B31 : Nat} {B65 : Nat} {k n : Nat} (hC : Cx X G RL cL_beats (some .boolean) 10 4040 24240 23) (hz : ZOk G Z) (hZ : ZM Z) (h43 : At Z 43 (dA 0 4)) (hzz : Sub G Z Zq) (v1 : Int32) (v2 : Int32) (v3 : Int32) (v4 : Int32) (v5 : Int32) (v6 : Int32) (v9 : Int32) (v10 : Int32) (v11 : Int32) (v12 : Int32) (v13 : Int32) (v14 : Int32) (v15 : Int32) (v17 : Int32) (k31 : Int32 → Int32 → Int32 → Int32 → Int32 → Int32 → Int32 → Mem → Option (Int32 × Mem)) (k65 : Int32 → Int32 → Int32 → Int32 → Int32 → Int32 → Mem → Option (Int32 × Mem)) (hk31 : ∀ (k n : Nat) (u2 : Int32) (u3 : Int32) (u4 : Int32) (u5 : Int32) (u6 : Int32) (u8 : Int32) (u9 : Int32) (M : Mem), k ≤ B31 → n ≤ 6 * k → k31 u2 u3 u4 u5 u6 u8 u9 M = some (r, M') → V X G Z M k n (QN X G (QcI G Zq r M') 4040 24240) 31 [(0, .ref (Z.1 0)), (1, .int v1), (2, .int u2), (3, .int u3), (4, .int u4), (5, .int u5), (6, .int u6), (7, .ref (Z.1 43)), (8, .int u8), (9, .int u9)] []) (hk65 : ∀ (k n : Nat) (u4 : Int32) (u5 : Int32) (u8 : Int32) (u11 : Int32) (u12 : Int32) (u13 : Int32) (M : Mem), k ≤ B65 → n ≤ 6 * k → k65 u4 u5 u8 u11 u12 u13 M = some (r, M') → V X G Z M k n (QN X G (QcI G Zq r M') 4040 24240) 65 [(0, .ref (Z.1 0)), (1, .int v1), (2, .int v2), (3, .int v3), (4, .int u4), (5, .int u5), (6, .int v6), (7, .ref (Z.1 43)), (8, .int u8), (9, .int v9), (10, .int v10), (11, .int u11), (12, .int u12), (13, .int u13)] []) (hB31 : B31 ≤ 4040) (hB65 : B65 ≤ 4040) (s0 : Int32) (M : Mem) (hb65 : k + 11 ≤ B65) (hn : n ≤ 6 * k) (hf : f_L_beats_b204 v1 v2 v3 v4 v5 v6 v9 v10 v11 v12 v13 v14 v15 v17 k31 k65 s0 M = some (r, M')) : V X G Z M k n (QN X G (QcI G Zq r M') 4040 24240) 204 [(0, .ref (Z.1 0)), (1, .int v1), (2, .int v2), (3, .int v3), (4, .int v4), (5, .int v5), (6, .int v6), (7, .ref (Z.1 43)), (9, .int v9), (10, .int v10), (11, .int v11), (12, .int v12), (13, .int v13), (14, .int v14), (15, .int v15), (17, .int v17)] [.int s0] := by
  unfold f_L_beats_b204 at hf
  refine r_istore (L' := [(18, .int s0), (0, .ref (Z.1 0)), (1, .int v1), (2, .int v2), (3, .int v3), (4, .int v4), (5, .int v5), (6, .int v6), (7, .ref (Z.1 43)), (9, .int v9), (10, .int v10), (11, .int v11), (12, .int v12), (13, .int v13), (14, .int v14), (15, .int v15), (17, .int v17)]) hC dL_beats_204 (by decide) rfl ?_
  refine r_iload hC dL_beats_206 0 rfl ?_
  refine r_aload_n hC dL_beats_208 1 rfl ?_
  refine r_iload hC dL_beats_209 13 rfl ?_
  refine r_wcall [.int s0] (fun r M1 h => c_L_tryAbout (cx_st hC) hz hZ v13 _ r M1 h) hf cs_L_115 hC rfl rfl (by decide) (by decide) (Nat.le_of_ble_eq_true rfl) (by omega) (by omega) dL_beats_211 (fun x33 M34 hf => ?_)
  refine r_icmp_le 221 hC dL_beats_214 (by decide) (fun h => ?_) (fun h => ?_)
  · have hf := if_T hf h
    refine r_iconst (v := 0) hC dL_beats_221 rfl ?_
    refine r_L [1, 2, 3, 4, 5, 6, 7, 8, 9, 10, 11, 12, 13, 14, 15, 16, 0] rfl ?_
    exact w_L_beats_b222 hC hz hZ h43 hzz v1 v2 v3 v4 v5 v6 v9 v10 v11 v12 v13 v14 v15 v17 s0 k31 k65 hk31 hk65 (by omega) (by omega) 0 _ (by omega) (by omega) hf
  · have hf := if_F hf h
    refine r_iconst (v := 1) hC dL_beats_217 rfl ?_
    refine r_goto 222 hC dL_beats_218 (by decide) ?_
    refine r_L [1, 2, 3, 4, 5, 6, 7, 8, 9, 10, 11, 12, 13, 14, 15, 16, 0] rfl ?_
    exact w_L_beats_b222 hC hz hZ h43 hzz v1 v2 v3 v4 v5 v6 v9 v10 v11 v12 v13 v14 v15 v17 s0 k31 k65 hk31 hk65 (by omega) (by omega) 1 _ (by omega) (by omega) hf
set_option maxRecDepth 20000 in
set_option maxHeartbeats 1000000 in
theorem w_L_beats_b190 {X : XX} {G : GG} {Z : ZZ} {r : Int32} {M' : Mem} {Zq : ZZ} {B31 : Nat} {B65 : Nat} {k n : Nat} (hC : Cx X G RL cL_beats (some .boolean) 10 4040 24240 23) (hz : ZOk G Z) (hZ : ZM Z) (h43 : At Z 43 (dA 0 4)) (hzz : Sub G Z Zq) (v1 : Int32) (v2 : Int32) (v3 : Int32) (v4 : Int32) (v5 : Int32) (v6 : Int32) (v9 : Int32) (v10 : Int32) (v11 : Int32) (v12 : Int32) (v13 : Int32) (v14 : Int32) (v15 : Int32) (v16 : Int32) (v17 : Int32) (k31 : Int32 → Int32 → Int32 → Int32 → Int32 → Int32 → Int32 → Mem → Option (Int32 × Mem)) (k65 : Int32 → Int32 → Int32 → Int32 → Int32 → Int32 → Mem → Option (Int32 × Mem)) (hk31 : ∀ (k n : Nat) (u2 : Int32) (u3 : Int32) (u4 : Int32) (u5 : Int32) (u6 : Int32) (u8 : Int32) (u9 : Int32) (M : Mem), k ≤ B31 → n ≤ 6 * k → k31 u2 u3 u4 u5 u6 u8 u9 M = some (r, M') → V X G Z M k n (QN X G (QcI G Zq r M') 4040 24240) 31 [(0, .ref (Z.1 0)), (1, .int v1), (2, .int u2), (3, .int u3), (4, .int u4), (5, .int u5), (6, .int u6), (7, .ref (Z.1 43)), (8, .int u8), (9, .int u9)] []) (hk65 : ∀ (k n : Nat) (u4 : Int32) (u5 : Int32) (u8 : Int32) (u11 : Int32) (u12 : Int32) (u13 : Int32) (M : Mem), k ≤ B65 → n ≤ 6 * k → k65 u4 u5 u8 u11 u12 u13 M = some (r, M') → V X G Z M k n (QN X G (QcI G Zq r M') 4040 24240) 65 [(0, .ref (Z.1 0)), (1, .int v1), (2, .int v2), (3, .int v3), (4, .int u4), (5, .int u5), (6, .int v6), (7, .ref (Z.1 43)), (8, .int u8), (9, .int v9), (10, .int v10), (11, .int u11), (12, .int u12), (13, .int u13)] []) (hB31 : B31 ≤ 4040) (hB65 : B65 ≤ 4040)  (M : Mem) (hb65 : k + 11 ≤ B65) (hn : n ≤ 6 * k) (hf : f_L_beats_b190 v1 v2 v3 v4 v5 v6 v9 v10 v11 v12 v13 v14 v15 v16 v17 k31 k65 M = some (r, M')) : V X G Z M k n (QN X G (QcI G Zq r M') 4040 24240) 190 [(0, .ref (Z.1 0)), (1, .int v1), (2, .int v2), (3, .int v3), (4, .int v4), (5, .int v5), (6, .int v6), (7, .ref (Z.1 43)), (9, .int v9), (10, .int v10), (11, .int v11), (12, .int v12), (13, .int v13), (14, .int v14), (15, .int v15), (16, .int v16), (17, .int v17)] [] := by
  unfold f_L_beats_b190 at hf
  refine r_iload hC dL_beats_190 13 rfl ?_
  refine r_if_ne 199 hC dL_beats_192 (by decide) (fun h => ?_) (fun h => ?_)
  · have hf := if_F hf h
    refine r_iload hC dL_beats_199 15 rfl ?_
    refine r_iload hC dL_beats_201 14 rfl ?_
    refine r_isub hC dL_beats_203 ?_
    refine r_L [0, 1, 2, 3, 4, 5, 6, 7, 8, 9, 10, 11, 12, 13, 14, 16] rfl ?_
    exact w_L_beats_b204 hC hz hZ h43 hzz v1 v2 v3 v4 v5 v6 v9 v10 v11 v12 v13 v14 v15 v17 k31 k65 hk31 hk65 (by omega) (by omega) (v16 - v15) _ (by omega) (by omega) hf
  · have hf := if_T hf h
    refine r_iconst (v := 0) hC dL_beats_195 rfl ?_
    refine r_goto 204 hC dL_beats_196 (by decide) ?_
    refine r_L [0, 1, 2, 3, 4, 5, 6, 7, 8, 9, 10, 11, 12, 13, 14, 16] rfl ?_
    exact w_L_beats_b204 hC hz hZ h43 hzz v1 v2 v3 v4 v5 v6 v9 v10 v11 v12 v13 v14 v15 v17 k31 k65 hk31 hk65 (by omega) (by omega) 0 _ (by omega) (by omega) hf
set_option maxRecDepth 20000 in
set_option maxHeartbeats 1000000 in
theorem w_L_beats_b92 {X : XX} {G : GG} {Z : ZZ} {r : Int32} {M' : Mem} {Zq : ZZ} {B31 : Nat} {B65 : Nat} {B92 : Nat} {k n : Nat} (hC : Cx X G RL cL_beats (some .boolean) 10 4040 24240 23) (hz : ZOk G Z) (hZ : ZM Z) (h43 : At Z 43 (dA 0 4)) (hzz : Sub G Z Zq) (v1 : Int32) (v2 : Int32) (v3 : Int32) (v4 : Int32) (v5 : Int32) (v6 : Int32) (v9 : Int32) (v10 : Int32) (v11 : Int32) (v12 : Int32) (v13 : Int32) (k31 : Int32 → Int32 → Int32 → Int32 → Int32 → Int32 → Int32 → Mem → Option (Int32 × Mem)) (k65 : Int32 → Int32 → Int32 → Int32 → Int32 → Int32 → Mem → Option (Int32 × Mem)) (hk31 : ∀ (k n : Nat) (u2 : Int32) (u3 : Int32) (u4 : Int32) (u5 : Int32) (u6 : Int32) (u8 : Int32) (u9 : Int32) (M : Mem), k ≤ B31 → n ≤ 6 * k → k31 u2 u3 u4 u5 u6 u8 u9 M = some (r, M') → V X G Z M k n (QN X G (QcI G Zq r M') 4040 24240) 31 [(0, .ref (Z.1 0)), (1, .int v1), (2, .int u2), (3, .int u3), (4, .int u4), (5, .int u5), (6, .int u6), (7, .ref (Z.1 43)), (8, .int u8), (9, .int u9)] []) (hk65 : ∀ (k n : Nat) (u4 : Int32) (u5 : Int32) (u8 : Int32) (u11 : Int32) (u12 : Int32) (u13 : Int32) (M : Mem), k ≤ B65 → n ≤ 6 * k → k65 u4 u5 u8 u11 u12 u13 M = some (r, M') → V X G Z M k n (QN X G (QcI G Zq r M') 4040 24240) 65 [(0, .ref (Z.1 0)), (1, .int v1), (2, .int v2), (3, .int v3), (4, .int u4), (5, .int u5), (6, .int v6), (7, .ref (Z.1 43)), (8, .int u8), (9, .int v9), (10, .int v10), (11, .int u11), (12, .int u12), (13, .int u13)] []) (hB31 : B31 ≤ 4040) (hB65 : B65 ≤ 4040) (k92 : Int32 → Int32 → Int32 → Int32 → Int32 → Mem → Option (Int32 × Mem)) (hk92 : ∀ (k n : Nat) (u14 : Int32) (u15 : Int32) (u16 : Int32) (u17 : Int32) (u18 : Int32) (M : Mem), k ≤ B92 → n ≤ 6 * k → k92 u14 u15 u16 u17 u18 M = some (r, M') → V X G Z M k n (QN X G (QcI G Zq r M') 4040 24240) 92 [(0, .ref (Z.1 0)), (1, .int v1), (2, .int v2), (3, .int v3), (4, .int v4), (5, .int v5), (6, .int v6), (7, .ref (Z.1 43)), (9, .int v9), (10, .int v10), (11, .int v11), (12, .int v12), (13, .int v13), (14, .int u14), (15, .int u15), (16, .int u16), (17, .int u17), (18, .int u18)] []) (hB92 : B92 ≤ 4040) (v14 : Int32) (v15 : Int32) (v16 : Int32) (v17 : Int32) (v18 : Int32) (M : Mem) (hb65 : k + 11 ≤ B65) (hn : n ≤ 6 * k) (hb92 : k + 3 ≤ B92) (hf : f_L_beats_b92 v1 v2 v3 v4 v5 v6 v9 v10 v11 v12 v13 k31 k65 k92 v14 v15 v16 v17 v18 M = some (r, M')) : V X G Z M k n (QN X G (QcI G Zq r M') 4040 24240) 92 [(0, .ref (Z.1 0)), (1, .int v1), (2, .int v2), (3, .int v3), (4, .int v4), (5, .int v5), (6, .int v6), (7, .ref (Z.1 43)), (9, .int v9), (10, .int v10), (11, .int v11), (12, .int v12), (13, .int v13), (14, .int v14), (15, .int v15), (16, .int v16), (17, .int v17), (18, .int v18)] [] := by
  unfold f_L_beats_b92 at hf
  refine r_iload hC dL_beats_92 17 rfl ?_
  refine r_iload_n hC dL_beats_94 1 rfl ?_
  refine r_icmp_ge 190 hC dL_beats_95 (by decide) (fun h => ?_) (fun h => ?_)
  · have hf := if_T hf h
    refine r_L [0, 1, 2, 3, 4, 5, 6, 7, 8, 9, 10, 11, 12, 13, 14, 15, 16] rfl ?_
    exact w_L_beats_b190 hC hz hZ h43 hzz v1 v2 v3 v4 v5 v6 v9 v10 v11 v12 v13 v14 v15 v16 v17 k31 k65 hk31 hk65 (by omega) (by omega)  _ (by omega) (by omega) hf
  · have hf := if_F hf h
    refine r_aload_n hC dL_beats_98 0 rfl ?_
    refine r_iload hC dL_beats_99 17 rfl ?_
    refine r_iload hC dL_beats_101 8 rfl ?_
    refine r_iconst (v := 0) hC dL_beats_103 rfl ?_
    refine r_wcall [] (fun r M1 h => c_L_tryNote (cx_st hC) hz hZ v18 v9 0 _ r M1 h) hf cs_L_155 hC rfl rfl (by decide) (by decide) (Nat.le_of_ble_eq_true rfl) (by omega) (by omega) dL_beats_104 (fun x29 M30 hf => ?_)
    refine r_iload hC dL_beats_107 12 rfl ?_
    refine r_icmp_ne 184 hC dL_beats_109 (by decide) (fun h => ?_) (fun h => ?_)
    · have hf := if_F hf h
      refine r_iinc (v := v18 + 1) (L' := [(18, .int (v18 + 1)), (0, .ref (Z.1 0)), (1, .int v1), (2, .int v2), (3, .int v3), (4, .int v4), (5, .int v5), (6, .int v6), (7, .ref (Z.1 43)), (9, .int v9), (10, .int v10), (11, .int v11), (12, .int v12), (13, .int v13), (14, .int v14), (15, .int v15), (16, .int v16), (17, .int v17)]) hC dL_beats_184 17 rfl rfl (by decide) rfl ?_
      refine r_goto 92 hC dL_beats_187 (by decide) ?_
      refine r_L [1, 2, 3, 4, 5, 6, 7, 8, 9, 10, 11, 12, 13, 14, 15, 16, 17, 0] rfl ?_
      exact hk92 _ _ _ _ _ _ _ _ (by omega) (by omega) hf
    · have hf := if_T hf h
      refine r_aload_n hC dL_beats_112 0 rfl ?_
      refine r_iload hC dL_beats_113 17 rfl ?_
      refine r_iload hC dL_beats_115 8 rfl ?_
      refine r_iconst (v := 1) hC dL_beats_117 rfl ?_
      refine r_wcall [] (fun r M1 h => c_L_tryCell (cx_st hC) hz hZ v18 v9 1 _ r M1 h) hf cs_L_127 hC rfl rfl (by decide) (by decide) (Nat.le_of_ble_eq_true rfl) (by omega) (by omega) dL_beats_118 (fun x31 M32 hf => ?_)
      refine r_istore (L' := [(19, .int x31), (0, .ref (Z.1 0)), (1, .int v1), (2, .int v2), (3, .int v3), (4, .int v4), (5, .int v5), (6, .int v6), (7, .ref (Z.1 43)), (9, .int v9), (10, .int v10), (11, .int v11), (12, .int v12), (13, .int v13), (14, .int v14), (15, .int v15), (16, .int v16), (17, .int v17), (18, .int v18)]) hC dL_beats_121 (by decide) rfl ?_
      refine r_iinc (v := v14 + 1) (L' := [(14, .int (v14 + 1)), (19, .int x31), (0, .ref (Z.1 0)), (1, .int v1), (2, .int v2), (3, .int v3), (4, .int v4), (5, .int v5), (6, .int v6), (7, .ref (Z.1 43)), (9, .int v9), (10, .int v10), (11, .int v11), (12, .int v12), (13, .int v13), (15, .int v15), (16, .int v16), (17, .int v17), (18, .int v18)]) hC dL_beats_123 14 rfl rfl (by decide) rfl ?_
      refine r_iload hC dL_beats_126 1 rfl ?_
      refine r_iload hC dL_beats_128 15 rfl ?_
      refine r_icmp_ge 138 hC dL_beats_130 (by decide) (fun h => ?_) (fun h => ?_)
      · have hf := if_T hf h
        refine r_iload hC dL_beats_138 15 rfl ?_
        refine r_L [2, 3, 4, 5, 6, 7, 8, 9, 10, 11, 12, 13, 14, 0, 16, 17, 18, 1] rfl ?_
        exact w_L_beats_b140 hC hz hZ h43 hzz v1 v2 v3 v4 v5 v6 v9 v10 v11 v12 v13 (v14 + 1) v16 v17 v18 x31 k31 k65 k92 hk31 hk65 hk92 (by omega) (by omega) (by omega) v15 _ (by omega) (by omega) hf
      · have hf := if_F hf h
        refine r_iload hC dL_beats_133 1 rfl ?_
        refine r_goto 140 hC dL_beats_135 (by decide) ?_
        refine r_L [2, 3, 4, 5, 6, 7, 8, 9, 10, 11, 12, 13, 14, 0, 16, 17, 18, 1] rfl ?_
        exact w_L_beats_b140 hC hz hZ h43 hzz v1 v2 v3 v4 v5 v6 v9 v10 v11 v12 v13 (v14 + 1) v16 v17 v18 x31 k31 k65 k92 hk31 hk65 hk92 (by omega) (by omega) (by omega) x31 _ (by omega) (by omega) hf
set_option maxRecDepth 20000 in
set_option maxHeartbeats 1000000 in
theorem w_L_beats_b662 {X : XX} {G : GG} {Z : ZZ} {r : Int32} {M' : Mem} {Zq : ZZ} {B31 : Nat} {B527 : Nat} {k n : Nat} (hC : Cx X G RL cL_beats (some .boolean) 10 4040 24240 23) (hz : ZOk G Z) (hZ : ZM Z) (h43 : At Z 43 (dA 0 4)) (hzz : Sub G Z Zq) (v1 : Int32) (v2 : Int32) (v3 : Int32) (v4 : Int32) (v5 : Int32) (v6 : Int32) (v9 : Int32) (v10 : Int32) (v11 : Int32) (v12 : Int32) (v13 : Int32) (k31 : Int32 → Int32 → Int32 → Int32 → Int32 → Int32 → Int32 → Mem → Option (Int32 × Mem)) (k527 : Int32 → Int32 → Int32 → Int32 → Int32 → Mem → Option (Int32 × Mem)) (hk31 : ∀ (k n : Nat) (u2 : Int32) (u3 : Int32) (u4 : Int32) (u5 : Int32) (u6 : Int32) (u8 : Int32) (u9 : Int32) (M : Mem), k ≤ B31 → n ≤ 6 * k → k31 u2 u3 u4 u5 u6 u8 u9 M = some (r, M') → V X G Z M k n (QN X G (QcI G Zq r M') 4040 24240) 31 [(0, .ref (Z.1 0)), (1, .int v1), (2, .int u2), (3, .int u3), (4, .int u4), (5, .int u5), (6, .int u6), (7, .ref (Z.1 43)), (8, .int u8), (9, .int u9)] []) (hk527 : ∀ (k n : Nat) (u3 : Int32) (u6 : Int32) (u8 : Int32) (u12 : Int32) (u13 : Int32) (M : Mem), k ≤ B527 → n ≤ 6 * k → k527 u3 u6 u8 u12 u13 M = some (r, M') → V X G Z M k n (QN X G (QcI G Zq r M') 4040 24240) 527 [(0, .ref (Z.1 0)), (1, .int v1), (2, .int v2), (3, .int u3), (4, .int v4), (5, .int v5), (6, .int u6), (7, .ref (Z.1 43)), (8, .int u8), (9, .int v9), (10, .int v10), (11, .int v11), (12, .int u12), (13, .int u13)] []) (hB31 : B31 ≤ 4040) (hB527 : B527 ≤ 4040) (s0 : Int32) (M : Mem) (hb527 : k + 0 ≤ B527) (hn : n ≤ 6 * k) (hf : f_L_beats_b662 v1 v2 v3 v4 v5 v6 v9 v10 v11 v12 v13 k31 k527 s0 M = some (r, M')) : V X G Z M k n (QN X G (QcI G Zq r M') 4040 24240) 662 [(0, .ref (Z.1 0)), (1, .int v1), (2, .int v2), (3, .int v3), (4, .int v4), (5, .int v5), (6, .int v6), (7, .ref (Z.1 43)), (9, .int v9), (10, .int v10), (11, .int v11), (12, .int v12), (13, .int v13)] [.int s0] := by
  unfold f_L_beats_b662 at hf
  refine r_istore (L' := [(8, .int s0), (0, .ref (Z.1 0)), (1, .int v1), (2, .int v2), (3, .int v3), (4, .int v4), (5, .int v5), (6, .int v6), (7, .ref (Z.1 43)), (9, .int v9), (10, .int v10), (11, .int v11), (12, .int v12), (13, .int v13)]) hC dL_beats_662 (by decide) rfl ?_
  refine r_goto 1110 hC dL_beats_664 (by decide) ?_
  refine r_iinc (v := v13 + 1) (L' := [(13, .int (v13 + 1)), (8, .int s0), (0, .ref (Z.1 0)), (1, .int v1), (2, .int v2), (3, .int v3), (4, .int v4), (5, .int v5), (6, .int v6), (7, .ref (Z.1 43)), (9, .int v9), (10, .int v10), (11, .int v11), (12, .int v12)]) hC dL_beats_1110 13 rfl rfl (by decide) rfl ?_
  refine r_goto 527 hC dL_beats_1113 (by decide) ?_
  refine r_L [2, 3, 4, 5, 6, 7, 8, 9, 1, 10, 11, 12, 13, 0] rfl ?_
  exact hk527 _ _ _ _ _ _ _ _ (by omega) (by omega) hf
set_option maxRecDepth 20000 in
set_option maxHeartbeats 1000000 in
theorem w_L_beats_b661 {X : XX} {G : GG} {Z : ZZ} {r : Int32} {M' : Mem} {Zq : ZZ} {B31 : Nat} {B527 : Nat} {k n : Nat} (hC : Cx X G RL cL_beats (some .boolean) 10 4040 24240 23) (hz : ZOk G Z) (hZ : ZM Z) (h43 : At Z 43 (dA 0 4)) (hzz : Sub G Z Zq) (v1 : Int32) (v2 : Int32) (v3 : Int32) (v4 : Int32) (v5 : Int32) (v6 : Int32) (v9 : Int32) (v10 : Int32) (v11 : Int32) (v12 : Int32) (v13 : Int32) (k31 : Int32 → Int32 → Int32 → Int32 → Int32 → Int32 → Int32 → Mem → Option (Int32 × Mem)) (k527 : Int32 → Int32 → Int32 → Int32 → Int32 → Mem → Option (Int32 × Mem)) (hk31 : ∀ (k n : Nat) (u2 : Int32) (u3 : Int32) (u4 : Int32) (u5 : Int32) (u6 : Int32) (u8 : Int32) (u9 : Int32) (M : Mem), k ≤ B31 → n ≤ 6 * k → k31 u2 u3 u4 u5 u6 u8 u9 M = some (r, M') → V X G Z M k n (QN X G (QcI G Zq r M') 4040 24240) 31 [(0, .ref (Z.1 0)), (1, .int v1), (2, .int u2), (3, .int u3), (4, .int u4), (5, .int u5), (6, .int u6), (7, .ref (Z.1 43)), (8, .int u8), (9, .int u9)] []) (hk527 : ∀ (k n : Nat) (u3 : Int32) (u6 : Int32) (u8 : Int32) (u12 : Int32) (u13 : Int32) (M : Mem), k ≤ B527 → n ≤ 6 * k → k527 u3 u6 u8 u12 u13 M = some (r, M') → V X G Z M k n (QN X G (QcI G Zq r M') 4040 24240) 527 [(0, .ref (Z.1 0)), (1, .int v1), (2, .int v2), (3, .int u3), (4, .int v4), (5, .int v5), (6, .int u6), (7, .ref (Z.1 43)), (8, .int u8), (9, .int v9), (10, .int v10), (11, .int v11), (12, .int u12), (13, .int u13)] []) (hB31 : B31 ≤ 4040) (hB527 : B527 ≤ 4040)  (M : Mem) (hb527 : k + 0 ≤ B527) (hn : n ≤ 6 * k) (hf : f_L_beats_b661 v1 v2 v3 v4 v5 v6 v9 v10 v11 v12 v13 k31 k527 M = some (r, M')) : V X G Z M k n (QN X G (QcI G Zq r M') 4040 24240) 661 [(0, .ref (Z.1 0)), (1, .int v1), (2, .int v2), (3, .int v3), (4, .int v4), (5, .int v5), (6, .int v6), (7, .ref (Z.1 43)), (9, .int v9), (10, .int v10), (11, .int v11), (12, .int v12), (13, .int v13)] [] := by
  unfold f_L_beats_b661 at hf
  refine r_iconst (v := 0) hC dL_beats_661 rfl ?_
  exact w_L_beats_b662 hC hz hZ h43 hzz v1 v2 v3 v4 v5 v6 v9 v10 v11 v12 v13 k31 k527 hk31 hk527 (by omega) (by omega) 0 _ (by omega) (by omega) hf
set_option maxRecDepth 20000 in
set_option maxHeartbeats 1000000 in
theorem w_L_beats_b795 {X : XX} {G : GG} {Z : ZZ} {r : Int32} {M' : Mem} {Zq : ZZ} {B31 : Nat} {B527 : Nat} {B676 : Nat} {k n : Nat} (hC : Cx X G RL cL_beats (some .boolean) 10 4040 24240 23) (hz : ZOk G Z) (hZ : ZM Z) (h43 : At Z 43 (dA 0 4)) (hzz : Sub G Z Zq) (v1 : Int32) (v2 : Int32) (v3 : Int32) (v4 : Int32) (v5 : Int32) (v6 : Int32) (v9 : Int32) (v10 : Int32) (v11 : Int32) (v12 : Int32) (v13 : Int32) (v14 : Int32) (v15 : Int32) (v16 : Int32) (v17 : Int32) (v18 : Int32) (v20 : Int32) (k31 : Int32 → Int32 → Int32 → Int32 → Int32 → Int32 → Int32 → Mem → Option (Int32 × Mem)) (k527 : Int32 → Int32 → Int32 → Int32 → Int32 → Mem → Option (Int32 × Mem)) (k676 : Int32 → Int32 → Int32 → Mem → Option (Int32 × Mem)) (hk31 : ∀ (k n : Nat) (u2 : Int32) (u3 : Int32) (u4 : Int32) (u5 : Int32) (u6 : Int32) (u8 : Int32) (u9 : Int32) (M : Mem), k ≤ B31 → n ≤ 6 * k → k31 u2 u3 u4 u5 u6 u8 u9 M = some (r, M') → V X G Z M k n (QN X G (QcI G Zq r M') 4040 24240) 31 [(0, .ref (Z.1 0)), (1, .int v1), (2, .int u2), (3, .int u3), (4, .int u4), (5, .int u5), (6, .int u6), (7, .ref (Z.1 43)), (8, .int u8), (9, .int u9)] []) (hk527 : ∀ (k n : Nat) (u3 : Int32) (u6 : Int32) (u8 : Int32) (u12 : Int32) (u13 : Int32) (M : Mem), k ≤ B527 → n ≤ 6 * k → k527 u3 u6 u8 u12 u13 M = some (r, M') → V X G Z M k n (QN X G (QcI G Zq r M') 4040 24240) 527 [(0, .ref (Z.1 0)), (1, .int v1), (2, .int v2), (3, .int u3), (4, .int v4), (5, .int v5), (6, .int u6), (7, .ref (Z.1 43)), (8, .int u8), (9, .int v9), (10, .int v10), (11, .int v11), (12, .int u12), (13, .int u13)] []) (hk676 : ∀ (k n : Nat) (u18 : Int32) (u19 : Int32) (u20 : Int32) (M : Mem), k ≤ B676 → n ≤ 6 * k → k676 u18 u19 u20 M = some (r, M') → V X G Z M k n (QN X G (QcI G Zq r M') 4040 24240) 676 [(0, .ref (Z.1 0)), (1, .int v1), (2, .int v2), (3, .int v3), (4, .int v4), (5, .int v5), (6, .int v6), (7, .ref (Z.1 43)), (9, .int v9), (10, .int v10), (11, .int v11), (12, .int v12), (13, .int v13), (14, .int v14), (15, .int v15), (16, .int v16), (17, .int v17), (18, .int u18), (19, .int u19), (20, .int u20)] []) (hB31 : B31 ≤ 4040) (hB527 : B527 ≤ 4040) (hB676 : B676 ≤ 4040)  (M : Mem) (hb676 : k + 0 ≤ B676) (hn : n ≤ 6 * k) (hf : f_L_beats_b795 v1 v2 v3 v4 v5 v6 v9 v10 v11 v12 v13 v14 v15 v16 v17 v18 v20 k31 k527 k676 M = some (r, M')) : V X G Z M k n (QN X G (QcI G Zq r M') 4040 24240) 795 [(0, .ref (Z.1 0)), (1, .int v1), (2, .int v2), (3, .int v3), (4, .int v4), (5, .int v5), (6, .int v6), (7, .ref (Z.1 43)), (9, .int v9), (10, .int v10), (11, .int v11), (12, .int v12), (13, .int v13), (14, .int v14), (15, .int v15), (16, .int v16), (17, .int v17), (18, .int v18), (20, .int v20)] [] := by
  unfold f_L_beats_b795 at hf
  refine r_iconst (v := 1) hC dL_beats_795 rfl ?_
  refine r_goto 800 hC dL_beats_796 (by decide) ?_
  refine r_istore (L' := [(19, .int 1), (0, .ref (Z.1 0)), (1, .int v1), (2, .int v2), (3, .int v3), (4, .int v4), (5, .int v5), (6, .int v6), (7, .ref (Z.1 43)), (9, .int v9), (10, .int v10), (11, .int v11), (12, .int v12), (13, .int v13), (14, .int v14), (15, .int v15), (16, .int v16), (17, .int v17), (18, .int v18), (20, .int v20)]) hC dL_beats_800 (by decide) rfl ?_
  refine r_iinc (v := v20 + 1) (L' := [(20, .int (v20 + 1)), (19, .int 1), (0, .ref (Z.1 0)), (1, .int v1), (2, .int v2), (3, .int v3), (4, .int v4), (5, .int v5), (6, .int v6), (7, .ref (Z.1 43)), (9, .int v9), (10, .int v10), (11, .int v11), (12, .int v12), (13, .int v13), (14, .int v14), (15, .int v15), (16, .int v16), (17, .int v17), (18, .int v18)]) hC dL_beats_802 19 rfl rfl (by decide) rfl ?_
  refine r_goto 676 hC dL_beats_805 (by decide) ?_
  refine r_L [2, 3, 4, 5, 6, 7, 8, 9, 10, 11, 12, 13, 14, 15, 16, 17, 18, 19, 1, 0] rfl ?_
  exact hk676 _ _ _ _ _ _ (by omega) (by omega) hf
set_option maxRecDepth 20000 in
set_option maxHeartbeats 1000000 in
theorem w_L_beats_b770 {X : XX} {G : GG} {Z : ZZ} {r : Int32} {M' : Mem} {Zq : ZZ} {B31 : Nat} {B527 : Nat} {B676 : Nat} {k n : Nat} (hC : Cx X G RL cL_beats (some .boolean) 10 4040 24240 23) (hz : ZOk G Z) (hZ : ZM Z) (h43 : At Z 43 (dA 0 4)) (hzz : Sub G Z Zq) (v1 : Int32) (v2 : Int32) (v3 : Int32) (v4 : Int32) (v5 : Int32) (v6 : Int32) (v9 : Int32) (v10 : Int32) (v11 : Int32) (v12 : Int32) (v13 : Int32) (v14 : Int32) (v15 : Int32) (v16 : Int32) (v17 : Int32) (v19 : Int32) (v20 : Int32) (v21 : Int32) (v22 : Int32) (k31 : Int32 → Int32 → Int32 → Int32 → Int32 → Int32 → Int32 → Mem → Option (Int32 × Mem)) (k527 : Int32 → Int32 → Int32 → Int32 → Int32 → Mem → Option (Int32 × Mem)) (k676 : Int32 → Int32 → Int32 → Mem → Option (Int32 × Mem)) (hk31 : ∀ (k n : Nat) (u2 : Int32) (u3 : Int32) (u4 : Int32) (u5 : Int32) (u6 : Int32) (u8 : Int32) (u9 : Int32) (M : Mem), k ≤ B31 → n ≤ 6 * k → k31 u2 u3 u4 u5 u6 u8 u9 M = some (r, M') → V X G Z M k n (QN X G (QcI G Zq r M') 4040 24240) 31 [(0, .ref (Z.1 0)), (1, .int v1), (2, .int u2), (3, .int u3), (4, .int u4), (5, .int u5), (6, .int u6), (7, .ref (Z.1 43)), (8, .int u8), (9, .int u9)] []) (hk527 : ∀ (k n : Nat) (u3 : Int32) (u6 : Int32) (u8 : Int32) (u12 : Int32) (u13 : Int32) (M : Mem), k ≤ B527 → n ≤ 6 * k → k527 u3 u6 u8 u12 u13 M = some (r, M') → V X G Z M k n (QN X G (QcI G Zq r M') 4040 24240) 527 [(0, .ref (Z.1 0)), (1, .int v1), (2, .int v2), (3, .int u3), (4, .int v4), (5, .int v5), (6, .int u6), (7, .ref (Z.1 43)), (8, .int u8), (9, .int v9), (10, .int v10), (11, .int v11), (12, .int u12), (13, .int u13)] []) (hk676 : ∀ (k n : Nat) (u18 : Int32) (u19 : Int32) (u20 : Int32) (M : Mem), k ≤ B676 → n ≤ 6 * k → k676 u18 u19 u20 M = some (r, M') → V X G Z M k n (QN X G (QcI G Zq r M') 4040 24240) 676 [(0, .ref (Z.1 0)), (1, .int v1), (2, .int v2), (3, .int v3), (4, .int v4), (5, .int v5), (6, .int v6), (7, .ref (Z.1 43)), (9, .int v9), (10, .int v10), (11, .int v11), (12, .int v12), (13, .int v13), (14, .int v14), (15, .int v15), (16, .int v16), (17, .int v17), (18, .int u18), (19, .int u19), (20, .int u20)] []) (hB31 : B31 ≤ 4040) (hB527 : B527 ≤ 4040) (hB676 : B676 ≤ 4040) (s0 : Int32) (M : Mem) (hb676 : k + 0 ≤ B676) (hn : n ≤ 6 * k) (hf : f_L_beats_b770 v1 v2 v3 v4 v5 v6 v9 v10 v11 v12 v13 v14 v15 v16 v17 v19 v20 v21 v22 k31 k527 k676 s0 M = some (r, M')) : V X G Z M k n (QN X G (QcI G Zq r M') 4040 24240) 770 [(0, .ref (Z.1 0)), (1, .int v1), (2, .int v2), (3, .int v3), (4, .int v4), (5, .int v5), (6, .int v6), (7, .ref (Z.1 43)), (9, .int v9), (10, .int v10), (11, .int v11), (12, .int v12), (13, .int v13), (14, .int v14), (15, .int v15), (16, .int v16), (17, .int v17), (19, .int v19), (20, .int v20), (21, .int v21), (22, .int v22)] [.int s0] := by
  unfold f_L_beats_b770 at hf
  refine r_istore (L' := [(18, .int s0), (0, .ref (Z.1 0)), (1, .int v1), (2, .int v2), (3, .int v3), (4, .int v4), (5, .int v5), (6, .int v6), (7, .ref (Z.1 43)), (9, .int v9), (10, .int v10), (11, .int v11), (12, .int v12), (13, .int v13), (14, .int v14), (15, .int v15), (16, .int v16), (17, .int v17), (19, .int v19), (20, .int v20), (21, .int v21), (22, .int v22)]) hC dL_beats_770 (by decide) rfl ?_
  refine r_iload hC dL_beats_772 18 rfl ?_
  refine r_if_ne 795 hC dL_beats_774 (by decide) (fun h => ?_) (fun h => ?_)
  · have hf := if_F hf h
    refine r_L [1, 2, 3, 4, 5, 6, 7, 8, 9, 10, 11, 12, 13, 14, 15, 16, 17, 0, 19] rfl ?_
    exact w_L_beats_b795 hC hz hZ h43 hzz v1 v2 v3 v4 v5 v6 v9 v10 v11 v12 v13 v14 v15 v16 v17 s0 v20 k31 k527 k676 hk31 hk527 hk676 (by omega) (by omega) (by omega)  _ (by omega) (by omega) hf
  · have hf := if_T hf h
    refine r_iload hC dL_beats_777 21 rfl ?_
    refine r_if_eq 799 hC dL_beats_779 (by decide) (fun h => ?_) (fun h => ?_)
    · have hf := if_T hf h
      refine r_iconst (v := 0) hC dL_beats_799 rfl ?_
      refine r_istore (L' := [(19, .int 0), (18, .int s0), (0, .ref (Z.1 0)), (1, .int v1), (2, .int v2), (3, .int v3), (4, .int v4), (5, .int v5), (6, .int v6), (7, .ref (Z.1 43)), (9, .int v9), (10, .int v10), (11, .int v11), (12, .int v12), (13, .int v13), (14, .int v14), (15, .int v15), (16, .int v16), (17, .int v17), (20, .int v20), (21, .int v21), (22, .int v22)]) hC dL_beats_800 (by decide) rfl ?_
      refine r_iinc (v := v20 + 1) (L' := [(20, .int (v20 + 1)), (19, .int 0), (18, .int s0), (0, .ref (Z.1 0)), (1, .int v1), (2, .int v2), (3, .int v3), (4, .int v4), (5, .int v5), (6, .int v6), (7, .ref (Z.1 43)), (9, .int v9), (10, .int v10), (11, .int v11), (12, .int v12), (13, .int v13), (14, .int v14), (15, .int v15), (16, .int v16), (17, .int v17), (21, .int v21), (22, .int v22)]) hC dL_beats_802 19 rfl rfl (by decide) rfl ?_
      refine r_goto 676 hC dL_beats_805 (by decide) ?_
      refine r_L [3, 4, 5, 6, 7, 8, 9, 10, 11, 12, 13, 14, 15, 16, 17, 18, 19, 2, 1, 0] rfl ?_
      exact hk676 _ _ _ _ _ _ (by omega) (by omega) hf
    · have hf := if_F hf h
      refine r_iload hC dL_beats_782 20 rfl ?_
      refine r_if_eq 799 hC dL_beats_784 (by decide) (fun h => ?_) (fun h => ?_)
      · have hf := if_T hf h
        refine r_iconst (v := 0) hC dL_beats_799 rfl ?_
        refine r_istore (L' := [(19, .int 0), (18, .int s0), (0, .ref (Z.1 0)), (1, .int v1), (2, .int v2), (3, .int v3), (4, .int v4), (5, .int v5), (6, .int v6), (7, .ref (Z.1 43)), (9, .int v9), (10, .int v10), (11, .int v11), (12, .int v12), (13, .int v13), (14, .int v14), (15, .int v15), (16, .int v16), (17, .int v17), (20, .int v20), (21, .int v21), (22, .int v22)]) hC dL_beats_800 (by decide) rfl ?_
        refine r_iinc (v := v20 + 1) (L' := [(20, .int (v20 + 1)), (19, .int 0), (18, .int s0), (0, .ref (Z.1 0)), (1, .int v1), (2, .int v2), (3, .int v3), (4, .int v4), (5, .int v5), (6, .int v6), (7, .ref (Z.1 43)), (9, .int v9), (10, .int v10), (11, .int v11), (12, .int v12), (13, .int v13), (14, .int v14), (15, .int v15), (16, .int v16), (17, .int v17), (21, .int v21), (22, .int v22)]) hC dL_beats_802 19 rfl rfl (by decide) rfl ?_
        refine r_goto 676 hC dL_beats_805 (by decide) ?_
        refine r_L [3, 4, 5, 6, 7, 8, 9, 10, 11, 12, 13, 14, 15, 16, 17, 18, 19, 2, 1, 0] rfl ?_
        exact hk676 _ _ _ _ _ _ (by omega) (by omega) hf
      · have hf := if_F hf h
        refine r_iload hC dL_beats_787 20 rfl ?_
        refine r_bipush (v := 12) hC dL_beats_789 rfl ?_
        refine r_irem hC dL_beats_791 (by decide) ?_
        refine r_if_ne 799 hC dL_beats_792 (by decide) (fun h => ?_) (fun h => ?_)
        · have hf := if_F hf h
          refine r_iconst (v := 0) hC dL_beats_799 rfl ?_
          refine r_istore (L' := [(19, .int 0), (18, .int s0), (0, .ref (Z.1 0)), (1, .int v1), (2, .int v2), (3, .int v3), (4, .int v4), (5, .int v5), (6, .int v6), (7, .ref (Z.1 43)), (9, .int v9), (10, .int v10), (11, .int v11), (12, .int v12), (13, .int v13), (14, .int v14), (15, .int v15), (16, .int v16), (17, .int v17), (20, .int v20), (21, .int v21), (22, .int v22)]) hC dL_beats_800 (by decide) rfl ?_
          refine r_iinc (v := v20 + 1) (L' := [(20, .int (v20 + 1)), (19, .int 0), (18, .int s0), (0, .ref (Z.1 0)), (1, .int v1), (2, .int v2), (3, .int v3), (4, .int v4), (5, .int v5), (6, .int v6), (7, .ref (Z.1 43)), (9, .int v9), (10, .int v10), (11, .int v11), (12, .int v12), (13, .int v13), (14, .int v14), (15, .int v15), (16, .int v16), (17, .int v17), (21, .int v21), (22, .int v22)]) hC dL_beats_802 19 rfl rfl (by decide) rfl ?_
          refine r_goto 676 hC dL_beats_805 (by decide) ?_
          refine r_L [3, 4, 5, 6, 7, 8, 9, 10, 11, 12, 13, 14, 15, 16, 17, 18, 19, 2, 1, 0] rfl ?_
          exact hk676 _ _ _ _ _ _ (by omega) (by omega) hf
        · have hf := if_T hf h
          refine r_L [1, 2, 3, 4, 5, 6, 7, 8, 9, 10, 11, 12, 13, 14, 15, 16, 17, 0, 19] rfl ?_
          exact w_L_beats_b795 hC hz hZ h43 hzz v1 v2 v3 v4 v5 v6 v9 v10 v11 v12 v13 v14 v15 v16 v17 s0 v20 k31 k527 k676 hk31 hk527 hk676 (by omega) (by omega) (by omega)  _ (by omega) (by omega) hf
set_option maxRecDepth 20000 in
set_option maxHeartbeats 1000000 in
theorem w_L_beats_b765 {X : XX} {G : GG} {Z : ZZ} {r : Int32} {M' : Mem} {Zq : ZZ} {B31 : Nat} {B527 : Nat} {B676 : Nat} {k n : Nat} (hC : Cx X G RL cL_beats (some .boolean) 10 4040 24240 23) (hz : ZOk G Z) (hZ : ZM Z) (h43 : At Z 43 (dA 0 4)) (hzz : Sub G Z Zq) (v1 : Int32) (v2 : Int32) (v3 : Int32) (v4 : Int32) (v5 : Int32) (v6 : Int32) (v9 : Int32) (v10 : Int32) (v11 : Int32) (v12 : Int32) (v13 : Int32) (v14 : Int32) (v15 : Int32) (v16 : Int32) (v17 : Int32) (v19 : Int32) (v20 : Int32) (v21 : Int32) (v22 : Int32) (k31 : Int32 → Int32 → Int32 → Int32 → Int32 → Int32 → Int32 → Mem → Option (Int32 × Mem)) (k527 : Int32 → Int32 → Int32 → Int32 → Int32 → Mem → Option (Int32 × Mem)) (k676 : Int32 → Int32 → Int32 → Mem → Option (Int32 × Mem)) (hk31 : ∀ (k n : Nat) (u2 : Int32) (u3 : Int32) (u4 : Int32) (u5 : Int32) (u6 : Int32) (u8 : Int32) (u9 : Int32) (M : Mem), k ≤ B31 → n ≤ 6 * k → k31 u2 u3 u4 u5 u6 u8 u9 M = some (r, M') → V X G Z M k n (QN X G (QcI G Zq r M') 4040 24240) 31 [(0, .ref (Z.1 0)), (1, .int v1), (2, .int u2), (3, .int u3), (4, .int u4), (5, .int u5), (6, .int u6), (7, .ref (Z.1 43)), (8, .int u8), (9, .int u9)] []) (hk527 : ∀ (k n : Nat) (u3 : Int32) (u6 : Int32) (u8 : Int32) (u12 : Int32) (u13 : Int32) (M : Mem), k ≤ B527 → n ≤ 6 * k → k527 u3 u6 u8 u12 u13 M = some (r, M') → V X G Z M k n (QN X G (QcI G Zq r M') 4040 24240) 527 [(0, .ref (Z.1 0)), (1, .int v1), (2, .int v2), (3, .int u3), (4, .int v4), (5, .int v5), (6, .int u6), (7, .ref (Z.1 43)), (8, .int u8), (9, .int v9), (10, .int v10), (11, .int v11), (12, .int u12), (13, .int u13)] []) (hk676 : ∀ (k n : Nat) (u18 : Int32) (u19 : Int32) (u20 : Int32) (M : Mem), k ≤ B676 → n ≤ 6 * k → k676 u18 u19 u20 M = some (r, M') → V X G Z M k n (QN X G (QcI G Zq r M') 4040 24240) 676 [(0, .ref (Z.1 0)), (1, .int v1), (2, .int v2), (3, .int v3), (4, .int v4), (5, .int v5), (6, .int v6), (7, .ref (Z.1 43)), (9, .int v9), (10, .int v10), (11, .int v11), (12, .int v12), (13, .int v13), (14, .int v14), (15, .int v15), (16, .int v16), (17, .int v17), (18, .int u18), (19, .int u19), (20, .int u20)] []) (hB31 : B31 ≤ 4040) (hB527 : B527 ≤ 4040) (hB676 : B676 ≤ 4040)  (M : Mem) (hb676 : k + 0 ≤ B676) (hn : n ≤ 6 * k) (hf : f_L_beats_b765 v1 v2 v3 v4 v5 v6 v9 v10 v11 v12 v13 v14 v15 v16 v17 v19 v20 v21 v22 k31 k527 k676 M = some (r, M')) : V X G Z M k n (QN X G (QcI G Zq r M') 4040 24240) 765 [(0, .ref (Z.1 0)), (1, .int v1), (2, .int v2), (3, .int v3), (4, .int v4), (5, .int v5), (6, .int v6), (7, .ref (Z.1 43)), (9, .int v9), (10, .int v10), (11, .int v11), (12, .int v12), (13, .int v13), (14, .int v14), (15, .int v15), (16, .int v16), (17, .int v17), (19, .int v19), (20, .int v20), (21, .int v21), (22, .int v22)] [] := by
  unfold f_L_beats_b765 at hf
  refine r_iconst (v := 1) hC dL_beats_765 rfl ?_
  refine r_goto 770 hC dL_beats_766 (by decide) ?_
  exact w_L_beats_b770 hC hz hZ h43 hzz v1 v2 v3 v4 v5 v6 v9 v10 v11 v12 v13 v14 v15 v16 v17 v19 v20 v21 v22 k31 k527 k676 hk31 hk527 hk676 (by omega) (by omega) (by omega) 1 _ (by omega) (by omega) hf
set_option maxRecDepth 20000 in
set_option maxHeartbeats 1000000 in
theorem w_L_beats_b769 {X : XX} {G : GG} {Z : ZZ} {r : Int32} {M' : Mem} {Zq : ZZ} {B31 : Nat} {B527 : Nat} {B676 : Nat} {k n : Nat} (hC : Cx X G RL cL_beats (some .boolean) 10 4040 24240 23) (hz : ZOk G Z) (hZ : ZM Z) (h43 : At Z 43 (dA 0 4)) (hzz : Sub G Z Zq) (v1 : Int32) (v2 : Int32) (v3 : Int32) (v4 : Int32) (v5 : Int32) (v6 : Int32) (v9 : Int32) (v10 : Int32) (v11 : Int32) (v12 : Int32) (v13 : Int32) (v14 : Int32) (v15 : Int32) (v16 : Int32) (v17 : Int32) (v19 : Int32) (v20 : Int32) (v21 : Int32) (v22 : Int32) (k31 : Int32 → Int32 → Int32 → Int32 → Int32 → Int32 → Int32 → Mem → Option (Int32 × Mem)) (k527 : Int32 → Int32 → Int32 → Int32 → Int32 → Mem → Option (Int32 × Mem)) (k676 : Int32 → Int32 → Int32 → Mem → Option (Int32 × Mem)) (hk31 : ∀ (k n : Nat) (u2 : Int32) (u3 : Int32) (u4 : Int32) (u5 : Int32) (u6 : Int32) (u8 : Int32) (u9 : Int32) (M : Mem), k ≤ B31 → n ≤ 6 * k → k31 u2 u3 u4 u5 u6 u8 u9 M = some (r, M') → V X G Z M k n (QN X G (QcI G Zq r M') 4040 24240) 31 [(0, .ref (Z.1 0)), (1, .int v1), (2, .int u2), (3, .int u3), (4, .int u4), (5, .int u5), (6, .int u6), (7, .ref (Z.1 43)), (8, .int u8), (9, .int u9)] []) (hk527 : ∀ (k n : Nat) (u3 : Int32) (u6 : Int32) (u8 : Int32) (u12 : Int32) (u13 : Int32) (M : Mem), k ≤ B527 → n ≤ 6 * k → k527 u3 u6 u8 u12 u13 M = some (r, M') → V X G Z M k n (QN X G (QcI G Zq r M') 4040 24240) 527 [(0, .ref (Z.1 0)), (1, .int v1), (2, .int v2), (3, .int u3), (4, .int v4), (5, .int v5), (6, .int u6), (7, .ref (Z.1 43)), (8, .int u8), (9, .int v9), (10, .int v10), (11, .int v11), (12, .int u12), (13, .int u13)] []) (hk676 : ∀ (k n : Nat) (u18 : Int32) (u19 : Int32) (u20 : Int32) (M : Mem), k ≤ B676 → n ≤ 6 * k → k676 u18 u19 u20 M = some (r, M') → V X G Z M k n (QN X G (QcI G Zq r M') 4040 24240) 676 [(0, .ref (Z.1 0)), (1, .int v1), (2, .int v2), (3, .int v3), (4, .int v4), (5, .int v5), (6, .int v6), (7, .ref (Z.1 43)), (9, .int v9), (10, .int v10), (11, .int v11), (12, .int v12), (13, .int v13), (14, .int v14), (15, .int v15), (16, .int v16), (17, .int v17), (18, .int u18), (19, .int u19), (20, .int u20)] []) (hB31 : B31 ≤ 4040) (hB527 : B527 ≤ 4040) (hB676 : B676 ≤ 4040)  (M : Mem) (hb676 : k + 0 ≤ B676) (hn : n ≤ 6 * k) (hf : f_L_beats_b769 v1 v2 v3 v4 v5 v6 v9 v10 v11 v12 v13 v14 v15 v16 v17 v19 v20 v21 v22 k31 k527 k676 M = some (r, M')) : V X G Z M k n (QN X G (QcI G Zq r M') 4040 24240) 769 [(0, .ref (Z.1 0)), (1, .int v1), (2, .int v2), (3, .int v3), (4, .int v4), (5, .int v5), (6, .int v6), (7, .ref (Z.1 43)), (9, .int v9), (10, .int v10), (11, .int v11), (12, .int v12), (13, .int v13), (14, .int v14), (15, .int v15), (16, .int v16), (17, .int v17), (19, .int v19), (20, .int v20), (21, .int v21), (22, .int v22)] [] := by
  unfold f_L_beats_b769 at hf
  refine r_iconst (v := 0) hC dL_beats_769 rfl ?_
  exact w_L_beats_b770 hC hz hZ h43 hzz v1 v2 v3 v4 v5 v6 v9 v10 v11 v12 v13 v14 v15 v16 v17 v19 v20 v21 v22 k31 k527 k676 hk31 hk527 hk676 (by omega) (by omega) (by omega) 0 _ (by omega) (by omega) hf
set_option maxRecDepth 20000 in
set_option maxHeartbeats 1000000 in
theorem w_L_beats_b748 {X : XX} {G : GG} {Z : ZZ} {r : Int32} {M' : Mem} {Zq : ZZ} {B31 : Nat} {B527 : Nat} {B676 : Nat} {k n : Nat} (hC : Cx X G RL cL_beats (some .boolean) 10 4040 24240 23) (hz : ZOk G Z) (hZ : ZM Z) (h43 : At Z 43 (dA 0 4)) (hzz : Sub G Z Zq) (v1 : Int32) (v2 : Int32) (v3 : Int32) (v4 : Int32) (v5 : Int32) (v6 : Int32) (v9 : Int32) (v10 : Int32) (v11 : Int32) (v12 : Int32) (v13 : Int32) (v14 : Int32) (v15 : Int32) (v16 : Int32) (v17 : Int32) (v18 : Int32) (v19 : Int32) (v20 : Int32) (v21 : Int32) (k31 : Int32 → Int32 → Int32 → Int32 → Int32 → Int32 → Int32 → Mem → Option (Int32 × Mem)) (k527 : Int32 → Int32 → Int32 → Int32 → Int32 → Mem → Option (Int32 × Mem)) (k676 : Int32 → Int32 → Int32 → Mem → Option (Int32 × Mem)) (hk31 : ∀ (k n : Nat) (u2 : Int32) (u3 : Int32) (u4 : Int32) (u5 : Int32) (u6 : Int32) (u8 : Int32) (u9 : Int32) (M : Mem), k ≤ B31 → n ≤ 6 * k → k31 u2 u3 u4 u5 u6 u8 u9 M = some (r, M') → V X G Z M k n (QN X G (QcI G Zq r M') 4040 24240) 31 [(0, .ref (Z.1 0)), (1, .int v1), (2, .int u2), (3, .int u3), (4, .int u4), (5, .int u5), (6, .int u6), (7, .ref (Z.1 43)), (8, .int u8), (9, .int u9)] []) (hk527 : ∀ (k n : Nat) (u3 : Int32) (u6 : Int32) (u8 : Int32) (u12 : Int32) (u13 : Int32) (M : Mem), k ≤ B527 → n ≤ 6 * k → k527 u3 u6 u8 u12 u13 M = some (r, M') → V X G Z M k n (QN X G (QcI G Zq r M') 4040 24240) 527 [(0, .ref (Z.1 0)), (1, .int v1), (2, .int v2), (3, .int u3), (4, .int v4), (5, .int v5), (6, .int u6), (7, .ref (Z.1 43)), (8, .int u8), (9, .int v9), (10, .int v10), (11, .int v11), (12, .int u12), (13, .int u13)] []) (hk676 : ∀ (k n : Nat) (u18 : Int32) (u19 : Int32) (u20 : Int32) (M : Mem), k ≤ B676 → n ≤ 6 * k → k676 u18 u19 u20 M = some (r, M') → V X G Z M k n (QN X G (QcI G Zq r M') 4040 24240) 676 [(0, .ref (Z.1 0)), (1, .int v1), (2, .int v2), (3, .int v3), (4, .int v4), (5, .int v5), (6, .int v6), (7, .ref (Z.1 43)), (9, .int v9), (10, .int v10), (11, .int v11), (12, .int v12), (13, .int v13), (14, .int v14), (15, .int v15), (16, .int v16), (17, .int v17), (18, .int u18), (19, .int u19), (20, .int u20)] []) (hB31 : B31 ≤ 4040) (hB527 : B527 ≤ 4040) (hB676 : B676 ≤ 4040) (s0 : Int32) (M : Mem) (hb676 : k + 0 ≤ B676) (hn : n ≤ 6 * k) (hf : f_L_beats_b748 v1 v2 v3 v4 v5 v6 v9 v10 v11 v12 v13 v14 v15 v16 v17 v18 v19 v20 v21 k31 k527 k676 s0 M = some (r, M')) : V X G Z M k n (QN X G (QcI G Zq r M') 4040 24240) 748 [(0, .ref (Z.1 0)), (1, .int v1), (2, .int v2), (3, .int v3), (4, .int v4), (5, .int v5), (6, .int v6), (7, .ref (Z.1 43)), (9, .int v9), (10, .int v10), (11, .int v11), (12, .int v12), (13, .int v13), (14, .int v14), (15, .int v15), (16, .int v16), (17, .int v17), (18, .int v18), (19, .int v19), (20, .int v20), (21, .int v21)] [.int s0] := by
  unfold f_L_beats_b748 at hf
  refine r_istore (L' := [(22, .int s0), (0, .ref (Z.1 0)), (1, .int v1), (2, .int v2), (3, .int v3), (4, .int v4), (5, .int v5), (6, .int v6), (7, .ref (Z.1 43)), (9, .int v9), (10, .int v10), (11, .int v11), (12, .int v12), (13, .int v13), (14, .int v14), (15, .int v15), (16, .int v16), (17, .int v17), (18, .int v18), (19, .int v19), (20, .int v20), (21, .int v21)]) hC dL_beats_748 (by decide) rfl ?_
  refine r_iload hC dL_beats_750 18 rfl ?_
  refine r_if_ne 765 hC dL_beats_752 (by decide) (fun h => ?_) (fun h => ?_)
  · have hf := if_F hf h
    refine r_L [1, 2, 3, 4, 5, 6, 7, 8, 9, 10, 11, 12, 13, 14, 15, 16, 17, 19, 20, 21, 0] rfl ?_
    exact w_L_beats_b765 hC hz hZ h43 hzz v1 v2 v3 v4 v5 v6 v9 v10 v11 v12 v13 v14 v15 v16 v17 v19 v20 v21 s0 k31 k527 k676 hk31 hk527 hk676 (by omega) (by omega) (by omega)  _ (by omega) (by omega) hf
  · have hf := if_T hf h
    refine r_iload hC dL_beats_755 0 rfl ?_
    refine r_if_eq 769 hC dL_beats_757 (by decide) (fun h => ?_) (fun h => ?_)
    · have hf := if_T hf h
      refine r_L [1, 2, 3, 4, 5, 6, 7, 8, 9, 10, 11, 12, 13, 14, 15, 16, 17, 19, 20, 21, 0] rfl ?_
      exact w_L_beats_b769 hC hz hZ h43 hzz v1 v2 v3 v4 v5 v6 v9 v10 v11 v12 v13 v14 v15 v16 v17 v19 v20 v21 s0 k31 k527 k676 hk31 hk527 hk676 (by omega) (by omega) (by omega)  _ (by omega) (by omega) hf
    · have hf := if_F hf h
      refine r_iload hC dL_beats_760 21 rfl ?_
      refine r_if_ne 769 hC dL_beats_762 (by decide) (fun h => ?_) (fun h => ?_)
      · have hf := if_F hf h
        refine r_L [1, 2, 3, 4, 5, 6, 7, 8, 9, 10, 11, 12, 13, 14, 15, 16, 17, 19, 20, 21, 0] rfl ?_
        exact w_L_beats_b769 hC hz hZ h43 hzz v1 v2 v3 v4 v5 v6 v9 v10 v11 v12 v13 v14 v15 v16 v17 v19 v20 v21 s0 k31 k527 k676 hk31 hk527 hk676 (by omega) (by omega) (by omega)  _ (by omega) (by omega) hf
      · have hf := if_T hf h
        refine r_L [1, 2, 3, 4, 5, 6, 7, 8, 9, 10, 11, 12, 13, 14, 15, 16, 17, 19, 20, 21, 0] rfl ?_
        exact w_L_beats_b765 hC hz hZ h43 hzz v1 v2 v3 v4 v5 v6 v9 v10 v11 v12 v13 v14 v15 v16 v17 v19 v20 v21 s0 k31 k527 k676 hk31 hk527 hk676 (by omega) (by omega) (by omega)  _ (by omega) (by omega) hf
set_option maxRecDepth 20000 in
set_option maxHeartbeats 1000000 in
theorem w_L_beats_b747 {X : XX} {G : GG} {Z : ZZ} {r : Int32} {M' : Mem} {Zq : ZZ} {B31 : Nat} {B527 : Nat} {B676 : Nat} {k n : Nat} (hC : Cx X G RL cL_beats (some .boolean) 10 4040 24240 23) (hz : ZOk G Z) (hZ : ZM Z) (h43 : At Z 43 (dA 0 4)) (hzz : Sub G Z Zq) (v1 : Int32) (v2 : Int32) (v3 : Int32) (v4 : Int32) (v5 : Int32) (v6 : Int32) (v9 : Int32) (v10 : Int32) (v11 : Int32) (v12 : Int32) (v13 : Int32) (v14 : Int32) (v15 : Int32) (v16 : Int32) (v17 : Int32) (v18 : Int32) (v19 : Int32) (v20 : Int32) (v21 : Int32) (k31 : Int32 → Int32 → Int32 → Int32 → Int32 → Int32 → Int32 → Mem → Option (Int32 × Mem)) (k527 : Int32 → Int32 → Int32 → Int32 → Int32 → Mem → Option (Int32 × Mem)) (k676 : Int32 → Int32 → Int32 → Mem → Option (Int32 × Mem)) (hk31 : ∀ (k n : Nat) (u2 : Int32) (u3 : Int32) (u4 : Int32) (u5 : Int32) (u6 : Int32) (u8 : Int32) (u9 : Int32) (M : Mem), k ≤ B31 → n ≤ 6 * k → k31 u2 u3 u4 u5 u6 u8 u9 M = some (r, M') → V X G Z M k n (QN X G (QcI G Zq r M') 4040 24240) 31 [(0, .ref (Z.1 0)), (1, .int v1), (2, .int u2), (3, .int u3), (4, .int u4), (5, .int u5), (6, .int u6), (7, .ref (Z.1 43)), (8, .int u8), (9, .int u9)] []) (hk527 : ∀ (k n : Nat) (u3 : Int32) (u6 : Int32) (u8 : Int32) (u12 : Int32) (u13 : Int32) (M : Mem), k ≤ B527 → n ≤ 6 * k → k527 u3 u6 u8 u12 u13 M = some (r, M') → V X G Z M k n (QN X G (QcI G Zq r M') 4040 24240) 527 [(0, .ref (Z.1 0)), (1, .int v1), (2, .int v2), (3, .int u3), (4, .int v4), (5, .int v5), (6, .int u6), (7, .ref (Z.1 43)), (8, .int u8), (9, .int v9), (10, .int v10), (11, .int v11), (12, .int u12), (13, .int u13)] []) (hk676 : ∀ (k n : Nat) (u18 : Int32) (u19 : Int32) (u20 : Int32) (M : Mem), k ≤ B676 → n ≤ 6 * k → k676 u18 u19 u20 M = some (r, M') → V X G Z M k n (QN X G (QcI G Zq r M') 4040 24240) 676 [(0, .ref (Z.1 0)), (1, .int v1), (2, .int v2), (3, .int v3), (4, .int v4), (5, .int v5), (6, .int v6), (7, .ref (Z.1 43)), (9, .int v9), (10, .int v10), (11, .int v11), (12, .int v12), (13, .int v13), (14, .int v14), (15, .int v15), (16, .int v16), (17, .int v17), (18, .int u18), (19, .int u19), (20, .int u20)] []) (hB31 : B31 ≤ 4040) (hB527 : B527 ≤ 4040) (hB676 : B676 ≤ 4040)  (M : Mem) (hb676 : k + 0 ≤ B676) (hn : n ≤ 6 * k) (hf : f_L_beats_b747 v1 v2 v3 v4 v5 v6 v9 v10 v11 v12 v13 v14 v15 v16 v17 v18 v19 v20 v21 k31 k527 k676 M = some (r, M')) : V X G Z M k n (QN X G (QcI G Zq r M') 4040 24240) 747 [(0, .ref (Z.1 0)), (1, .int v1), (2, .int v2), (3, .int v3), (4, .int v4), (5, .int v5), (6, .int v6), (7, .ref (Z.1 43)), (9, .int v9), (10, .int v10), (11, .int v11), (12, .int v12), (13, .int v13), (14, .int v14), (15, .int v15), (16, .int v16), (17, .int v17), (18, .int v18), (19, .int v19), (20, .int v20), (21, .int v21)] [] := by
  unfold f_L_beats_b747 at hf
  refine r_iconst (v := 0) hC dL_beats_747 rfl ?_
  exact w_L_beats_b748 hC hz hZ h43 hzz v1 v2 v3 v4 v5 v6 v9 v10 v11 v12 v13 v14 v15 v16 v17 v18 v19 v20 v21 k31 k527 k676 hk31 hk527 hk676 (by omega) (by omega) (by omega) 0 _ (by omega) (by omega) hf
set_option maxRecDepth 20000 in
set_option maxHeartbeats 1000000 in
theorem w_L_beats_b1084 {X : XX} {G : GG} {Z : ZZ} {r : Int32} {M' : Mem} {Zq : ZZ} {B31 : Nat} {B527 : Nat} {k n : Nat} (hC : Cx X G RL cL_beats (some .boolean) 10 4040 24240 23) (hz : ZOk G Z) (hZ : ZM Z) (h43 : At Z 43 (dA 0 4)) (hzz : Sub G Z Zq) (v1 : Int32) (v2 : Int32) (v3 : Int32) (v4 : Int32) (v5 : Int32) (v6 : Int32) (v9 : Int32) (v10 : Int32) (v11 : Int32) (v12 : Int32) (v13 : Int32) (v14 : Int32) (k31 : Int32 → Int32 → Int32 → Int32 → Int32 → Int32 → Int32 → Mem → Option (Int32 × Mem)) (k527 : Int32 → Int32 → Int32 → Int32 → Int32 → Mem → Option (Int32 × Mem)) (hk31 : ∀ (k n : Nat) (u2 : Int32) (u3 : Int32) (u4 : Int32) (u5 : Int32) (u6 : Int32) (u8 : Int32) (u9 : Int32) (M : Mem), k ≤ B31 → n ≤ 6 * k → k31 u2 u3 u4 u5 u6 u8 u9 M = some (r, M') → V X G Z M k n (QN X G (QcI G Zq r M') 4040 24240) 31 [(0, .ref (Z.1 0)), (1, .int v1), (2, .int u2), (3, .int u3), (4, .int u4), (5, .int u5), (6, .int u6), (7, .ref (Z.1 43)), (8, .int u8), (9, .int u9)] []) (hk527 : ∀ (k n : Nat) (u3 : Int32) (u6 : Int32) (u8 : Int32) (u12 : Int32) (u13 : Int32) (M : Mem), k ≤ B527 → n ≤ 6 * k → k527 u3 u6 u8 u12 u13 M = some (r, M') → V X G Z M k n (QN X G (QcI G Zq r M') 4040 24240) 527 [(0, .ref (Z.1 0)), (1, .int v1), (2, .int v2), (3, .int u3), (4, .int v4), (5, .int v5), (6, .int u6), (7, .ref (Z.1 43)), (8, .int u8), (9, .int v9), (10, .int v10), (11, .int v11), (12, .int u12), (13, .int u13)] []) (hB31 : B31 ≤ 4040) (hB527 : B527 ≤ 4040) (s0 : Int32) (s1 : Int32) (M : Mem) (hb527 : k + 1 ≤ B527) (hn : n ≤ 6 * k) (hf : f_L_beats_b1084 v1 v2 v3 v4 v5 v6 v9 v10 v11 v12 v13 v14 k31 k527 s0 s1 M = some (r, M')) : V X G Z M k n (QN X G (QcI G Zq r M') 4040 24240) 1084 [(0, .ref (Z.1 0)), (1, .int v1), (2, .int v2), (3, .int v3), (4, .int v4), (5, .int v5), (6, .int v6), (7, .ref (Z.1 43)), (9, .int v9), (10, .int v10), (11, .int v11), (12, .int v12), (13, .int v13), (14, .int v14)] [.int s0, .int s1] := by
  unfold f_L_beats_b1084 at hf
  refine r_icmp_ne 1107 hC dL_beats_1084 (by decide) (fun h => ?_) (fun h => ?_)
  · have hf := if_F hf h
    refine r_iconst (v := 0) hC dL_beats_1107 rfl ?_
    refine r_istore (L' := [(8, .int 0), (0, .ref (Z.1 0)), (1, .int v1), (2, .int v2), (3, .int v3), (4, .int v4), (5, .int v5), (6, .int v6), (7, .ref (Z.1 43)), (9, .int v9), (10, .int v10), (11, .int v11), (12, .int v12), (13, .int v13), (14, .int v14)]) hC dL_beats_1108 (by decide) rfl ?_
    refine r_iinc (v := v13 + 1) (L' := [(13, .int (v13 + 1)), (8, .int 0), (0, .ref (Z.1 0)), (1, .int v1), (2, .int v2), (3, .int v3), (4, .int v4), (5, .int v5), (6, .int v6), (7, .ref (Z.1 43)), (9, .int v9), (10, .int v10), (11, .int v11), (12, .int v12), (14, .int v14)]) hC dL_beats_1110 13 rfl rfl (by decide) rfl ?_
    refine r_goto 527 hC dL_beats_1113 (by decide) ?_
    refine r_L [2, 3, 4, 5, 6, 7, 8, 9, 1, 10, 11, 12, 13, 0] rfl ?_
    exact hk527 _ _ _ _ _ _ _ _ (by omega) (by omega) hf
  · have hf := if_T hf h
    refine r_aload_n hC dL_beats_1087 0 rfl ?_
    refine r_iload hC dL_beats_1088 12 rfl ?_
    refine r_iload hC dL_beats_1090 8 rfl ?_
    refine r_iconst (v := 1) hC dL_beats_1092 rfl ?_
    refine r_isub hC dL_beats_1093 ?_
    refine r_iconst (v := 1) hC dL_beats_1094 rfl ?_
    refine r_wcall [] (fun r M1 h => c_L_tryCell (cx_st hC) hz hZ v13 (v9 - 1) 1 _ r M1 h) hf cs_L_127 hC rfl rfl (by decide) (by decide) (Nat.le_of_ble_eq_true rfl) (by omega) (by omega) dL_beats_1095 (fun x93 M94 hf => ?_)
    refine r_iload hC dL_beats_1098 13 rfl ?_
    refine r_icmp_ne 1107 hC dL_beats_1100 (by decide) (fun h => ?_) (fun h => ?_)
    · have hf := if_F hf h
      refine r_iconst (v := 0) hC dL_beats_1107 rfl ?_
      refine r_istore (L' := [(8, .int 0), (0, .ref (Z.1 0)), (1, .int v1), (2, .int v2), (3, .int v3), (4, .int v4), (5, .int v5), (6, .int v6), (7, .ref (Z.1 43)), (9, .int v9), (10, .int v10), (11, .int v11), (12, .int v12), (13, .int v13), (14, .int v14)]) hC dL_beats_1108 (by decide) rfl ?_
      refine r_iinc (v := v13 + 1) (L' := [(13, .int (v13 + 1)), (8, .int 0), (0, .ref (Z.1 0)), (1, .int v1), (2, .int v2), (3, .int v3), (4, .int v4), (5, .int v5), (6, .int v6), (7, .ref (Z.1 43)), (9, .int v9), (10, .int v10), (11, .int v11), (12, .int v12), (14, .int v14)]) hC dL_beats_1110 13 rfl rfl (by decide) rfl ?_
      refine r_goto 527 hC dL_beats_1113 (by decide) ?_
      refine r_L [2, 3, 4, 5, 6, 7, 8, 9, 1, 10, 11, 12, 13, 0] rfl ?_
      exact hk527 _ _ _ _ _ _ _ _ (by omega) (by omega) hf
    · have hf := if_T hf h
      refine r_iconst (v := 1) hC dL_beats_1103 rfl ?_
      refine r_goto 1108 hC dL_beats_1104 (by decide) ?_
      refine r_istore (L' := [(8, .int 1), (0, .ref (Z.1 0)), (1, .int v1), (2, .int v2), (3, .int v3), (4, .int v4), (5, .int v5), (6, .int v6), (7, .ref (Z.1 43)), (9, .int v9), (10, .int v10), (11, .int v11), (12, .int v12), (13, .int v13), (14, .int v14)]) hC dL_beats_1108 (by decide) rfl ?_
      refine r_iinc (v := v13 + 1) (L' := [(13, .int (v13 + 1)), (8, .int 1), (0, .ref (Z.1 0)), (1, .int v1), (2, .int v2), (3, .int v3), (4, .int v4), (5, .int v5), (6, .int v6), (7, .ref (Z.1 43)), (9, .int v9), (10, .int v10), (11, .int v11), (12, .int v12), (14, .int v14)]) hC dL_beats_1110 13 rfl rfl (by decide) rfl ?_
      refine r_goto 527 hC dL_beats_1113 (by decide) ?_
      refine r_L [2, 3, 4, 5, 6, 7, 8, 9, 1, 10, 11, 12, 13, 0] rfl ?_
      exact hk527 _ _ _ _ _ _ _ _ (by omega) (by omega) hf
set_option maxRecDepth 20000 in
set_option maxHeartbeats 1000000 in
theorem w_L_beats_b1032 {X : XX} {G : GG} {Z : ZZ} {r : Int32} {M' : Mem} {Zq : ZZ} {B31 : Nat} {B527 : Nat} {k n : Nat} (hC : Cx X G RL cL_beats (some .boolean) 10 4040 24240 23) (hz : ZOk G Z) (hZ : ZM Z) (h43 : At Z 43 (dA 0 4)) (hzz : Sub G Z Zq) (v1 : Int32) (v2 : Int32) (v3 : Int32) (v4 : Int32) (v5 : Int32) (v6 : Int32) (v9 : Int32) (v10 : Int32) (v11 : Int32) (v12 : Int32) (v13 : Int32) (v14 : Int32) (v15 : Int32) (v16 : Int32) (v17 : Int32) (k31 : Int32 → Int32 → Int32 → Int32 → Int32 → Int32 → Int32 → Mem → Option (Int32 × Mem)) (k527 : Int32 → Int32 → Int32 → Int32 → Int32 → Mem → Option (Int32 × Mem)) (hk31 : ∀ (k n : Nat) (u2 : Int32) (u3 : Int32) (u4 : Int32) (u5 : Int32) (u6 : Int32) (u8 : Int32) (u9 : Int32) (M : Mem), k ≤ B31 → n ≤ 6 * k → k31 u2 u3 u4 u5 u6 u8 u9 M = some (r, M') → V X G Z M k n (QN X G (QcI G Zq r M') 4040 24240) 31 [(0, .ref (Z.1 0)), (1, .int v1), (2, .int u2), (3, .int u3), (4, .int u4), (5, .int u5), (6, .int u6), (7, .ref (Z.1 43)), (8, .int u8), (9, .int u9)] []) (hk527 : ∀ (k n : Nat) (u3 : Int32) (u6 : Int32) (u8 : Int32) (u12 : Int32) (u13 : Int32) (M : Mem), k ≤ B527 → n ≤ 6 * k → k527 u3 u6 u8 u12 u13 M = some (r, M') → V X G Z M k n (QN X G (QcI G Zq r M') 4040 24240) 527 [(0, .ref (Z.1 0)), (1, .int v1), (2, .int v2), (3, .int u3), (4, .int v4), (5, .int v5), (6, .int u6), (7, .ref (Z.1 43)), (8, .int u8), (9, .int v9), (10, .int v10), (11, .int v11), (12, .int u12), (13, .int u13)] []) (hB31 : B31 ≤ 4040) (hB527 : B527 ≤ 4040) (s0 : Int32) (M : Mem) (hb527 : k + 3 ≤ B527) (hn : n ≤ 6 * k) (hf : f_L_beats_b1032 v1 v2 v3 v4 v5 v6 v9 v10 v11 v12 v13 v14 v15 v16 v17 k31 k527 s0 M = some (r, M')) : V X G Z M k n (QN X G (QcI G Zq r M') 4040 24240) 1032 [(0, .ref (Z.1 0)), (1, .int v1), (2, .int v2), (3, .int v3), (4, .int v4), (5, .int v5), (6, .int v6), (7, .ref (Z.1 43)), (9, .int v9), (10, .int v10), (11, .int v11), (12, .int v12), (13, .int v13), (14, .int v14), (15, .int v15), (16, .int v16), (17, .int v17)] [.int s0] := by
  unfold f_L_beats_b1032 at hf
  refine r_istore (L' := [(8, .int s0), (0, .ref (Z.1 0)), (1, .int v1), (2, .int v2), (3, .int v3), (4, .int v4), (5, .int v5), (6, .int v6), (7, .ref (Z.1 43)), (9, .int v9), (10, .int v10), (11, .int v11), (12, .int v12), (13, .int v13), (14, .int v14), (15, .int v15), (16, .int v16), (17, .int v17)]) hC dL_beats_1032 (by decide) rfl ?_
  refine r_iload hC dL_beats_1034 16 rfl ?_
  refine r_if_eq 1110 hC dL_beats_1036 (by decide) (fun h => ?_) (fun h => ?_)
  · have hf := if_T hf h
    refine r_iinc (v := v13 + 1) (L' := [(13, .int (v13 + 1)), (8, .int s0), (0, .ref (Z.1 0)), (1, .int v1), (2, .int v2), (3, .int v3), (4, .int v4), (5, .int v5), (6, .int v6), (7, .ref (Z.1 43)), (9, .int v9), (10, .int v10), (11, .int v11), (12, .int v12), (14, .int v14), (15, .int v15), (16, .int v16), (17, .int v17)]) hC dL_beats_1110 13 rfl rfl (by decide) rfl ?_
    refine r_goto 527 hC dL_beats_1113 (by decide) ?_
    refine r_L [2, 3, 4, 5, 6, 7, 8, 9, 1, 10, 11, 12, 13, 0] rfl ?_
    exact hk527 _ _ _ _ _ _ _ _ (by omega) (by omega) hf
  · have hf := if_F hf h
    refine r_iload hC dL_beats_1039 15 rfl ?_
    refine r_if_ne 1110 hC dL_beats_1041 (by decide) (fun h => ?_) (fun h => ?_)
    · have hf := if_F hf h
      refine r_iinc (v := v13 + 1) (L' := [(13, .int (v13 + 1)), (8, .int s0), (0, .ref (Z.1 0)), (1, .int v1), (2, .int v2), (3, .int v3), (4, .int v4), (5, .int v5), (6, .int v6), (7, .ref (Z.1 43)), (9, .int v9), (10, .int v10), (11, .int v11), (12, .int v12), (14, .int v14), (15, .int v15), (16, .int v16), (17, .int v17)]) hC dL_beats_1110 13 rfl rfl (by decide) rfl ?_
      refine r_goto 527 hC dL_beats_1113 (by decide) ?_
      refine r_L [2, 3, 4, 5, 6, 7, 8, 9, 1, 10, 11, 12, 13, 0] rfl ?_
      exact hk527 _ _ _ _ _ _ _ _ (by omega) (by omega) hf
    · have hf := if_T hf h
      refine r_iload hC dL_beats_1044 0 rfl ?_
      refine r_if_eq 1107 hC dL_beats_1046 (by decide) (fun h => ?_) (fun h => ?_)
      · have hf := if_T hf h
        refine r_iconst (v := 0) hC dL_beats_1107 rfl ?_
        refine r_istore (L' := [(8, .int 0), (0, .ref (Z.1 0)), (1, .int v1), (2, .int v2), (3, .int v3), (4, .int v4), (5, .int v5), (6, .int v6), (7, .ref (Z.1 43)), (9, .int v9), (10, .int v10), (11, .int v11), (12, .int v12), (13, .int v13), (14, .int v14), (15, .int v15), (16, .int v16), (17, .int v17)]) hC dL_beats_1108 (by decide) rfl ?_
        refine r_L [0, 1, 2, 3, 4, 5, 6, 7, 8, 9, 10, 11, 12, 13] rfl ?_
        refine r_iinc (v := v13 + 1) (L' := [(13, .int (v13 + 1)), (8, .int 0), (0, .ref (Z.1 0)), (1, .int v1), (2, .int v2), (3, .int v3), (4, .int v4), (5, .int v5), (6, .int v6), (7, .ref (Z.1 43)), (9, .int v9), (10, .int v10), (11, .int v11), (12, .int v12)]) hC dL_beats_1110 13 rfl rfl (by decide) rfl ?_
        refine r_goto 527 hC dL_beats_1113 (by decide) ?_
        refine r_L [2, 3, 4, 5, 6, 7, 8, 9, 1, 10, 11, 12, 13, 0] rfl ?_
        exact hk527 _ _ _ _ _ _ _ _ (by omega) (by omega) hf
      · have hf := if_F hf h
        refine r_iload hC dL_beats_1049 9 rfl ?_
        refine r_if_le 1107 hC dL_beats_1051 (by decide) (fun h => ?_) (fun h => ?_)
        · have hf := if_T hf h
          refine r_iconst (v := 0) hC dL_beats_1107 rfl ?_
          refine r_istore (L' := [(8, .int 0), (0, .ref (Z.1 0)), (1, .int v1), (2, .int v2), (3, .int v3), (4, .int v4), (5, .int v5), (6, .int v6), (7, .ref (Z.1 43)), (9, .int v9), (10, .int v10), (11, .int v11), (12, .int v12), (13, .int v13), (14, .int v14), (15, .int v15), (16, .int v16), (17, .int v17)]) hC dL_beats_1108 (by decide) rfl ?_
          refine r_L [0, 1, 2, 3, 4, 5, 6, 7, 8, 9, 10, 11, 12, 13] rfl ?_
          refine r_iinc (v := v13 + 1) (L' := [(13, .int (v13 + 1)), (8, .int 0), (0, .ref (Z.1 0)), (1, .int v1), (2, .int v2), (3, .int v3), (4, .int v4), (5, .int v5), (6, .int v6), (7, .ref (Z.1 43)), (9, .int v9), (10, .int v10), (11, .int v11), (12, .int v12)]) hC dL_beats_1110 13 rfl rfl (by decide) rfl ?_
          refine r_goto 527 hC dL_beats_1113 (by decide) ?_
          refine r_L [2, 3, 4, 5, 6, 7, 8, 9, 1, 10, 11, 12, 13, 0] rfl ?_
          exact hk527 _ _ _ _ _ _ _ _ (by omega) (by omega) hf
        · have hf := if_F hf h
          refine r_iload hC dL_beats_1054 17 rfl ?_
          refine r_aload_n hC dL_beats_1056 1 rfl ?_
          refine r_iload hC dL_beats_1057 13 rfl ?_
          refine r_iload hC dL_beats_1059 9 rfl ?_
          refine r_iconst (v := 1) hC dL_beats_1061 rfl ?_
          refine r_isub hC dL_beats_1062 ?_
          refine r_iconst (v := 0) hC dL_beats_1063 rfl ?_
          refine r_wcall [.int v17] (fun r M1 h => c_L_tryNote (cx_st hC) hz hZ v13 (v9 - 1) 0 _ r M1 h) hf cs_L_155 hC rfl rfl (by decide) (by decide) (Nat.le_of_ble_eq_true rfl) (by omega) (by omega) dL_beats_1064 (fun x87 M88 hf => ?_)
          refine r_aload_n hC dL_beats_1067 1 rfl ?_
          refine r_iload hC dL_beats_1068 13 rfl ?_
          refine r_iload hC dL_beats_1070 9 rfl ?_
          refine r_iconst (v := 0) hC dL_beats_1072 rfl ?_
          refine r_wcall [.int x87, .int v17] (fun r M1 h => c_L_tryNote (cx_st hC) hz hZ v13 v9 0 _ r M1 h) hf cs_L_155 hC rfl rfl (by decide) (by decide) (Nat.le_of_ble_eq_true rfl) (by omega) (by omega) dL_beats_1073 (fun x89 M90 hf => ?_)
          refine r_icmp_eq 1083 hC dL_beats_1076 (by decide) (fun h => ?_) (fun h => ?_)
          · have hf := if_T hf h
            refine r_iconst (v := 0) hC dL_beats_1083 rfl ?_
            refine r_L [1, 2, 3, 4, 5, 6, 7, 8, 9, 10, 11, 12, 13, 14] rfl ?_
            exact w_L_beats_b1084 hC hz hZ h43 hzz v1 v2 v3 v4 v5 v6 v9 v10 v11 v12 v13 v14 k31 k527 hk31 hk527 (by omega) (by omega) 0 v17 _ (by omega) (by omega) hf
          · have hf := if_F hf h
            refine r_iconst (v := 1) hC dL_beats_1079 rfl ?_
            refine r_goto 1084 hC dL_beats_1080 (by decide) ?_
            refine r_L [1, 2, 3, 4, 5, 6, 7, 8, 9, 10, 11, 12, 13, 14] rfl ?_
            exact w_L_beats_b1084 hC hz hZ h43 hzz v1 v2 v3 v4 v5 v6 v9 v10 v11 v12 v13 v14 k31 k527 hk31 hk527 (by omega) (by omega) 1 v17 _ (by omega) (by omega) hf
set_option maxRecDepth 20000 in
set_option maxHeartbeats 1000000 in
theorem w_L_beats_b1027 {X : XX} {G : GG} {Z : ZZ} {r : Int32} {M' : Mem} {Zq : ZZ} {B31 : Nat} {B527 : Nat} {k n : Nat} (hC : Cx X G RL cL_beats (some .boolean) 10 4040 24240 23) (hz : ZOk G Z) (hZ : ZM Z) (h43 : At Z 43 (dA 0 4)) (hzz : Sub G Z Zq) (v1 : Int32) (v2 : Int32) (v3 : Int32) (v4 : Int32) (v5 : Int32) (v6 : Int32) (v9 : Int32) (v10 : Int32) (v11 : Int32) (v12 : Int32) (v13 : Int32) (v14 : Int32) (v15 : Int32) (v16 : Int32) (v17 : Int32) (k31 : Int32 → Int32 → Int32 → Int32 → Int32 → Int32 → Int32 → Mem → Option (Int32 × Mem)) (k527 : Int32 → Int32 → Int32 → Int32 → Int32 → Mem → Option (Int32 × Mem)) (hk31 : ∀ (k n : Nat) (u2 : Int32) (u3 : Int32) (u4 : Int32) (u5 : Int32) (u6 : Int32) (u8 : Int32) (u9 : Int32) (M : Mem), k ≤ B31 → n ≤ 6 * k → k31 u2 u3 u4 u5 u6 u8 u9 M = some (r, M') → V X G Z M k n (QN X G (QcI G Zq r M') 4040 24240) 31 [(0, .ref (Z.1 0)), (1, .int v1), (2, .int u2), (3, .int u3), (4, .int u4), (5, .int u5), (6, .int u6), (7, .ref (Z.1 43)), (8, .int u8), (9, .int u9)] []) (hk527 : ∀ (k n : Nat) (u3 : Int32) (u6 : Int32) (u8 : Int32) (u12 : Int32) (u13 : Int32) (M : Mem), k ≤ B527 → n ≤ 6 * k → k527 u3 u6 u8 u12 u13 M = some (r, M') → V X G Z M k n (QN X G (QcI G Zq r M') 4040 24240) 527 [(0, .ref (Z.1 0)), (1, .int v1), (2, .int v2), (3, .int u3), (4, .int v4), (5, .int v5), (6, .int u6), (7, .ref (Z.1 43)), (8, .int u8), (9, .int v9), (10, .int v10), (11, .int v11), (12, .int u12), (13, .int u13)] []) (hB31 : B31 ≤ 4040) (hB527 : B527 ≤ 4040)  (M : Mem) (hb527 : k + 3 ≤ B527) (hn : n ≤ 6 * k) (hf : f_L_beats_b1027 v1 v2 v3 v4 v5 v6 v9 v10 v11 v12 v13 v14 v15 v16 v17 k31 k527 M = some (r, M')) : V X G Z M k n (QN X G (QcI G Zq r M') 4040 24240) 1027 [(0, .ref (Z.1 0)), (1, .int v1), (2, .int v2), (3, .int v3), (4, .int v4), (5, .int v5), (6, .int v6), (7, .ref (Z.1 43)), (9, .int v9), (10, .int v10), (11, .int v11), (12, .int v12), (13, .int v13), (14, .int v14), (15, .int v15), (16, .int v16), (17, .int v17)] [] := by
  unfold f_L_beats_b1027 at hf
  refine r_iconst (v := 1) hC dL_beats_1027 rfl ?_
  refine r_goto 1032 hC dL_beats_1028 (by decide) ?_
  exact w_L_beats_b1032 hC hz hZ h43 hzz v1 v2 v3 v4 v5 v6 v9 v10 v11 v12 v13 v14 v15 v16 v17 k31 k527 hk31 hk527 (by omega) (by omega) 1 _ (by omega) (by omega) hf
set_option maxRecDepth 20000 in
set_option maxHeartbeats 1000000 in
theorem w_L_beats_b1031 {X : XX} {G : GG} {Z : ZZ} {r : Int32} {M' : Mem} {Zq : ZZ} {B31 : Nat} {B527 : Nat} {k n : Nat} (hC : Cx X G RL cL_beats (some .boolean) 10 4040 24240 23) (hz : ZOk G Z) (hZ : ZM Z) (h43 : At Z 43 (dA 0 4)) (hzz : Sub G Z Zq) (v1 : Int32) (v2 : Int32) (v3 : Int32) (v4 : Int32) (v5 : Int32) (v6 : Int32) (v9 : Int32) (v10 : Int32) (v11 : Int32) (v12 : Int32) (v13 : Int32) (v14 : Int32) (v15 : Int32) (v16 : Int32) (v17 : Int32) (k31 : Int32 → Int32 → Int32 → Int32 → Int32 → Int32 → Int32 → Mem → Option (Int32 × Mem)) (k527 : Int32 → Int32 → Int32 → Int32 → Int32 → Mem → Option (Int32 × Mem)) (hk31 : ∀ (k n : Nat) (u2 : Int32) (u3 : Int32) (u4 : Int32) (u5 : Int32) (u6 : Int32) (u8 : Int32) (u9 : Int32) (M : Mem), k ≤ B31 → n ≤ 6 * k → k31 u2 u3 u4 u5 u6 u8 u9 M = some (r, M') → V X G Z M k n (QN X G (QcI G Zq r M') 4040 24240) 31 [(0, .ref (Z.1 0)), (1, .int v1), (2, .int u2), (3, .int u3), (4, .int u4), (5, .int u5), (6, .int u6), (7, .ref (Z.1 43)), (8, .int u8), (9, .int u9)] []) (hk527 : ∀ (k n : Nat) (u3 : Int32) (u6 : Int32) (u8 : Int32) (u12 : Int32) (u13 : Int32) (M : Mem), k ≤ B527 → n ≤ 6 * k → k527 u3 u6 u8 u12 u13 M = some (r, M') → V X G Z M k n (QN X G (QcI G Zq r M') 4040 24240) 527 [(0, .ref (Z.1 0)), (1, .int v1), (2, .int v2), (3, .int u3), (4, .int v4), (5, .int v5), (6, .int u6), (7, .ref (Z.1 43)), (8, .int u8), (9, .int v9), (10, .int v10), (11, .int v11), (12, .int u12), (13, .int u13)] []) (hB31 : B31 ≤ 4040) (hB527 : B527 ≤ 4040)  (M : Mem) (hb527 : k + 3 ≤ B527) (hn : n ≤ 6 * k) (hf : f_L_beats_b1031 v1 v2 v3 v4 v5 v6 v9 v10 v11 v12 v13 v14 v15 v16 v17 k31 k527 M = some (r, M')) : V X G Z M k n (QN X G (QcI G Zq r M') 4040 24240) 1031 [(0, .ref (Z.1 0)), (1, .int v1), (2, .int v2), (3, .int v3), (4, .int v4), (5, .int v5), (6, .int v6), (7, .ref (Z.1 43)), (9, .int v9), (10, .int v10), (11, .int v11), (12, .int v12), (13, .int v13), (14, .int v14), (15, .int v15), (16, .int v16), (17, .int v17)] [] := by
  unfold f_L_beats_b1031 at hf
  refine r_iconst (v := 0) hC dL_beats_1031 rfl ?_
  exact w_L_beats_b1032 hC hz hZ h43 hzz v1 v2 v3 v4 v5 v6 v9 v10 v11 v12 v13 v14 v15 v16 v17 k31 k527 hk31 hk527 (by omega) (by omega) 0 _ (by omega) (by omega) hf
set_option maxRecDepth 20000 in
set_option maxHeartbeats 1000000 in
theorem w_L_beats_b1009 {X : XX} {G : GG} {Z : ZZ} {r : Int32} {M' : Mem} {Zq : ZZ} {B31 : Nat} {B527 : Nat} {k n : Nat} (hC : Cx X G RL cL_beats (some .boolean) 10 4040 24240 23) (hz : ZOk G Z) (hZ : ZM Z) (h43 : At Z 43 (dA 0 4)) (hzz : Sub G Z Zq) (v1 : Int32) (v2 : Int32) (v3 : Int32) (v4 : Int32) (v5 : Int32) (v6 : Int32) (v9 : Int32) (v10 : Int32) (v11 : Int32) (v12 : Int32) (v13 : Int32) (v14 : Int32) (v15 : Int32) (v16 : Int32) (v17 : Int32) (k31 : Int32 → Int32 → Int32 → Int32 → Int32 → Int32 → Int32 → Mem → Option (Int32 × Mem)) (k527 : Int32 → Int32 → Int32 → Int32 → Int32 → Mem → Option (Int32 × Mem)) (hk31 : ∀ (k n : Nat) (u2 : Int32) (u3 : Int32) (u4 : Int32) (u5 : Int32) (u6 : Int32) (u8 : Int32) (u9 : Int32) (M : Mem), k ≤ B31 → n ≤ 6 * k → k31 u2 u3 u4 u5 u6 u8 u9 M = some (r, M') → V X G Z M k n (QN X G (QcI G Zq r M') 4040 24240) 31 [(0, .ref (Z.1 0)), (1, .int v1), (2, .int u2), (3, .int u3), (4, .int u4), (5, .int u5), (6, .int u6), (7, .ref (Z.1 43)), (8, .int u8), (9, .int u9)] []) (hk527 : ∀ (k n : Nat) (u3 : Int32) (u6 : Int32) (u8 : Int32) (u12 : Int32) (u13 : Int32) (M : Mem), k ≤ B527 → n ≤ 6 * k → k527 u3 u6 u8 u12 u13 M = some (r, M') → V X G Z M k n (QN X G (QcI G Zq r M') 4040 24240) 527 [(0, .ref (Z.1 0)), (1, .int v1), (2, .int v2), (3, .int u3), (4, .int v4), (5, .int v5), (6, .int u6), (7, .ref (Z.1 43)), (8, .int u8), (9, .int v9), (10, .int v10), (11, .int v11), (12, .int u12), (13, .int u13)] []) (hB31 : B31 ≤ 4040) (hB527 : B527 ≤ 4040) (s0 : Int32) (s1 : Int32) (M : Mem) (hb527 : k + 3 ≤ B527) (hn : n ≤ 6 * k) (hf : f_L_beats_b1009 v1 v2 v3 v4 v5 v6 v9 v10 v11 v12 v13 v14 v15 v16 v17 k31 k527 s0 s1 M = some (r, M')) : V X G Z M k n (QN X G (QcI G Zq r M') 4040 24240) 1009 [(0, .ref (Z.1 0)), (1, .int v1), (2, .int v2), (3, .int v3), (4, .int v4), (5, .int v5), (6, .int v6), (7, .ref (Z.1 43)), (9, .int v9), (10, .int v10), (11, .int v11), (12, .int v12), (13, .int v13), (14, .int v14), (15, .int v15), (16, .int v16), (17, .int v17)] [.int s0, .int s1] := by
  unfold f_L_beats_b1009 at hf
  refine r_icmp_ne 1031 hC dL_beats_1009 (by decide) (fun h => ?_) (fun h => ?_)
  · have hf := if_F hf h
    exact w_L_beats_b1031 hC hz hZ h43 hzz v1 v2 v3 v4 v5 v6 v9 v10 v11 v12 v13 v14 v15 v16 v17 k31 k527 hk31 hk527 (by omega) (by omega)  _ (by omega) (by omega) hf
  · have hf := if_T hf h
    refine r_iload hC dL_beats_1012 16 rfl ?_
    refine r_if_eq 1027 hC dL_beats_1014 (by decide) (fun h => ?_) (fun h => ?_)
    · have hf := if_T hf h
      exact w_L_beats_b1027 hC hz hZ h43 hzz v1 v2 v3 v4 v5 v6 v9 v10 v11 v12 v13 v14 v15 v16 v17 k31 k527 hk31 hk527 (by omega) (by omega)  _ (by omega) (by omega) hf
    · have hf := if_F hf h
      refine r_iload hC dL_beats_1017 15 rfl ?_
      refine r_if_eq 1031 hC dL_beats_1019 (by decide) (fun h => ?_) (fun h => ?_)
      · have hf := if_T hf h
        exact w_L_beats_b1031 hC hz hZ h43 hzz v1 v2 v3 v4 v5 v6 v9 v10 v11 v12 v13 v14 v15 v16 v17 k31 k527 hk31 hk527 (by omega) (by omega)  _ (by omega) (by omega) hf
      · have hf := if_F hf h
        refine r_iload hC dL_beats_1022 14 rfl ?_
        refine r_if_ne 1031 hC dL_beats_1024 (by decide) (fun h => ?_) (fun h => ?_)
        · have hf := if_F hf h
          exact w_L_beats_b1031 hC hz hZ h43 hzz v1 v2 v3 v4 v5 v6 v9 v10 v11 v12 v13 v14 v15 v16 v17 k31 k527 hk31 hk527 (by omega) (by omega)  _ (by omega) (by omega) hf
        · have hf := if_T hf h
          exact w_L_beats_b1027 hC hz hZ h43 hzz v1 v2 v3 v4 v5 v6 v9 v10 v11 v12 v13 v14 v15 v16 v17 k31 k527 hk31 hk527 (by omega) (by omega)  _ (by omega) (by omega) hf
set_option maxRecDepth 20000 in
set_option maxHeartbeats 1000000 in
theorem w_L_beats_b1004 {X : XX} {G : GG} {Z : ZZ} {r : Int32} {M' : Mem} {Zq : ZZ} {B31 : Nat} {B527 : Nat} {k n : Nat} (hC : Cx X G RL cL_beats (some .boolean) 10 4040 24240 23) (hz : ZOk G Z) (hZ : ZM Z) (h43 : At Z 43 (dA 0 4)) (hzz : Sub G Z Zq) (v1 : Int32) (v2 : Int32) (v3 : Int32) (v4 : Int32) (v5 : Int32) (v6 : Int32) (v9 : Int32) (v10 : Int32) (v11 : Int32) (v12 : Int32) (v13 : Int32) (v14 : Int32) (v15 : Int32) (v16 : Int32) (v17 : Int32) (k31 : Int32 → Int32 → Int32 → Int32 → Int32 → Int32 → Int32 → Mem → Option (Int32 × Mem)) (k527 : Int32 → Int32 → Int32 → Int32 → Int32 → Mem → Option (Int32 × Mem)) (hk31 : ∀ (k n : Nat) (u2 : Int32) (u3 : Int32) (u4 : Int32) (u5 : Int32) (u6 : Int32) (u8 : Int32) (u9 : Int32) (M : Mem), k ≤ B31 → n ≤ 6 * k → k31 u2 u3 u4 u5 u6 u8 u9 M = some (r, M') → V X G Z M k n (QN X G (QcI G Zq r M') 4040 24240) 31 [(0, .ref (Z.1 0)), (1, .int v1), (2, .int u2), (3, .int u3), (4, .int u4), (5, .int u5), (6, .int u6), (7, .ref (Z.1 43)), (8, .int u8), (9, .int u9)] []) (hk527 : ∀ (k n : Nat) (u3 : Int32) (u6 : Int32) (u8 : Int32) (u12 : Int32) (u13 : Int32) (M : Mem), k ≤ B527 → n ≤ 6 * k → k527 u3 u6 u8 u12 u13 M = some (r, M') → V X G Z M k n (QN X G (QcI G Zq r M') 4040 24240) 527 [(0, .ref (Z.1 0)), (1, .int v1), (2, .int v2), (3, .int u3), (4, .int v4), (5, .int v5), (6, .int u6), (7, .ref (Z.1 43)), (8, .int u8), (9, .int v9), (10, .int v10), (11, .int v11), (12, .int u12), (13, .int u13)] []) (hB31 : B31 ≤ 4040) (hB527 : B527 ≤ 4040) (s0 : Int32) (M : Mem) (hb527 : k + 3 ≤ B527) (hn : n ≤ 6 * k) (hf : f_L_beats_b1004 v1 v2 v3 v4 v5 v6 v9 v10 v11 v12 v13 v14 v15 v16 v17 k31 k527 s0 M = some (r, M')) : V X G Z M k n (QN X G (QcI G Zq r M') 4040 24240) 1004 [(0, .ref (Z.1 0)), (1, .int v1), (2, .int v2), (3, .int v3), (4, .int v4), (5, .int v5), (6, .int v6), (7, .ref (Z.1 43)), (9, .int v9), (10, .int v10), (11, .int v11), (12, .int v12), (13, .int v13), (14, .int v14), (15, .int v15), (16, .int v16), (17, .int v17)] [.int s0] := by
  unfold f_L_beats_b1004 at hf
  refine r_iconst (v := 1) hC dL_beats_1004 rfl ?_
  refine r_goto 1009 hC dL_beats_1005 (by decide) ?_
  exact w_L_beats_b1009 hC hz hZ h43 hzz v1 v2 v3 v4 v5 v6 v9 v10 v11 v12 v13 v14 v15 v16 v17 k31 k527 hk31 hk527 (by omega) (by omega) 1 s0 _ (by omega) (by omega) hf
set_option maxRecDepth 20000 in
set_option maxHeartbeats 1000000 in
theorem w_L_beats_b972 {X : XX} {G : GG} {Z : ZZ} {r : Int32} {M' : Mem} {Zq : ZZ} {B31 : Nat} {B527 : Nat} {k n : Nat} (hC : Cx X G RL cL_beats (some .boolean) 10 4040 24240 23) (hz : ZOk G Z) (hZ : ZM Z) (h43 : At Z 43 (dA 0 4)) (hzz : Sub G Z Zq) (v1 : Int32) (v2 : Int32) (v3 : Int32) (v4 : Int32) (v5 : Int32) (v6 : Int32) (v9 : Int32) (v10 : Int32) (v11 : Int32) (v12 : Int32) (v13 : Int32) (v14 : Int32) (v15 : Int32) (v16 : Int32) (v17 : Int32) (k31 : Int32 → Int32 → Int32 → Int32 → Int32 → Int32 → Int32 → Mem → Option (Int32 × Mem)) (k527 : Int32 → Int32 → Int32 → Int32 → Int32 → Mem → Option (Int32 × Mem)) (hk31 : ∀ (k n : Nat) (u2 : Int32) (u3 : Int32) (u4 : Int32) (u5 : Int32) (u6 : Int32) (u8 : Int32) (u9 : Int32) (M : Mem), k ≤ B31 → n ≤ 6 * k → k31 u2 u3 u4 u5 u6 u8 u9 M = some (r, M') → V X G Z M k n (QN X G (QcI G Zq r M') 4040 24240) 31 [(0, .ref (Z.1 0)), (1, .int v1), (2, .int u2), (3, .int u3), (4, .int u4), (5, .int u5), (6, .int u6), (7, .ref (Z.1 43)), (8, .int u8), (9, .int u9)] []) (hk527 : ∀ (k n : Nat) (u3 : Int32) (u6 : Int32) (u8 : Int32) (u12 : Int32) (u13 : Int32) (M : Mem), k ≤ B527 → n ≤ 6 * k → k527 u3 u6 u8 u12 u13 M = some (r, M') → V X G Z M k n (QN X G (QcI G Zq r M') 4040 24240) 527 [(0, .ref (Z.1 0)), (1, .int v1), (2, .int v2), (3, .int u3), (4, .int v4), (5, .int v5), (6, .int u6), (7, .ref (Z.1 43)), (8, .int u8), (9, .int v9), (10, .int v10), (11, .int v11), (12, .int u12), (13, .int u13)] []) (hB31 : B31 ≤ 4040) (hB527 : B527 ≤ 4040) (s0 : Int32) (s1 : Int32) (M : Mem) (hb527 : k + 4 ≤ B527) (hn : n ≤ 6 * k) (hf : f_L_beats_b972 v1 v2 v3 v4 v5 v6 v9 v10 v11 v12 v13 v14 v15 v16 v17 k31 k527 s0 s1 M = some (r, M')) : V X G Z M k n (QN X G (QcI G Zq r M') 4040 24240) 972 [(0, .ref (Z.1 0)), (1, .int v1), (2, .int v2), (3, .int v3), (4, .int v4), (5, .int v5), (6, .int v6), (7, .ref (Z.1 43)), (9, .int v9), (10, .int v10), (11, .int v11), (12, .int v12), (13, .int v13), (14, .int v14), (15, .int v15), (16, .int v16), (17, .int v17)] [.int s0, .int s1] := by
  unfold f_L_beats_b972 at hf
  refine r_icmp_ne 1031 hC dL_beats_972 (by decide) (fun h => ?_) (fun h => ?_)
  · have hf := if_F hf h
    exact w_L_beats_b1031 hC hz hZ h43 hzz v1 v2 v3 v4 v5 v6 v9 v10 v11 v12 v13 v14 v15 v16 v17 k31 k527 hk31 hk527 (by omega) (by omega)  _ (by omega) (by omega) hf
  · have hf := if_T hf h
    refine r_aload_n hC dL_beats_975 0 rfl ?_
    refine r_iload hC dL_beats_976 12 rfl ?_
    refine r_iload hC dL_beats_978 8 rfl ?_
    refine r_iconst (v := 2) hC dL_beats_980 rfl ?_
    refine r_wcall [] (fun r M1 h => c_L_tryNote (cx_st hC) hz hZ v13 v9 2 _ r M1 h) hf cs_L_155 hC rfl rfl (by decide) (by decide) (Nat.le_of_ble_eq_true rfl) (by omega) (by omega) dL_beats_981 (fun x97 M98 hf => ?_)
    refine r_iload hC dL_beats_984 14 rfl ?_
    refine r_if_le 994 hC dL_beats_986 (by decide) (fun h => ?_) (fun h => ?_)
    · have hf := if_T hf h
      refine r_iload hC dL_beats_994 16 rfl ?_
      refine r_if_ne 1004 hC dL_beats_996 (by decide) (fun h => ?_) (fun h => ?_)
      · have hf := if_F hf h
        exact w_L_beats_b1004 hC hz hZ h43 hzz v1 v2 v3 v4 v5 v6 v9 v10 v11 v12 v13 v14 v15 v16 v17 k31 k527 hk31 hk527 (by omega) (by omega) x97 _ (by omega) (by omega) hf
      · have hf := if_T hf h
        refine r_iload hC dL_beats_999 15 rfl ?_
        refine r_if_ne 1008 hC dL_beats_1001 (by decide) (fun h => ?_) (fun h => ?_)
        · have hf := if_F hf h
          refine r_iconst (v := 0) hC dL_beats_1008 rfl ?_
          exact w_L_beats_b1009 hC hz hZ h43 hzz v1 v2 v3 v4 v5 v6 v9 v10 v11 v12 v13 v14 v15 v16 v17 k31 k527 hk31 hk527 (by omega) (by omega) 0 x97 _ (by omega) (by omega) hf
        · have hf := if_T hf h
          exact w_L_beats_b1004 hC hz hZ h43 hzz v1 v2 v3 v4 v5 v6 v9 v10 v11 v12 v13 v14 v15 v16 v17 k31 k527 hk31 hk527 (by omega) (by omega) x97 _ (by omega) (by omega) hf
    · have hf := if_F hf h
      refine r_bipush (v := (-9)) hC dL_beats_989 rfl ?_
      refine r_goto 1009 hC dL_beats_991 (by decide) ?_
      exact w_L_beats_b1009 hC hz hZ h43 hzz v1 v2 v3 v4 v5 v6 v9 v10 v11 v12 v13 v14 v15 v16 v17 k31 k527 hk31 hk527 (by omega) (by omega) (-9) x97 _ (by omega) (by omega) hf
set_option maxRecDepth 20000 in
set_option maxHeartbeats 1000000 in
theorem w_L_beats_b962 {X : XX} {G : GG} {Z : ZZ} {r : Int32} {M' : Mem} {Zq : ZZ} {B31 : Nat} {B527 : Nat} {k n : Nat} (hC : Cx X G RL cL_beats (some .boolean) 10 4040 24240 23) (hz : ZOk G Z) (hZ : ZM Z) (h43 : At Z 43 (dA 0 4)) (hzz : Sub G Z Zq) (v1 : Int32) (v2 : Int32) (v3 : Int32) (v4 : Int32) (v5 : Int32) (v6 : Int32) (v9 : Int32) (v10 : Int32) (v11 : Int32) (v12 : Int32) (v13 : Int32) (v14 : Int32) (v15 : Int32) (v16 : Int32) (v17 : Int32) (k31 : Int32 → Int32 → Int32 → Int32 → Int32 → Int32 → Int32 → Mem → Option (Int32 × Mem)) (k527 : Int32 → Int32 → Int32 → Int32 → Int32 → Mem → Option (Int32 × Mem)) (hk31 : ∀ (k n : Nat) (u2 : Int32) (u3 : Int32) (u4 : Int32) (u5 : Int32) (u6 : Int32) (u8 : Int32) (u9 : Int32) (M : Mem), k ≤ B31 → n ≤ 6 * k → k31 u2 u3 u4 u5 u6 u8 u9 M = some (r, M') → V X G Z M k n (QN X G (QcI G Zq r M') 4040 24240) 31 [(0, .ref (Z.1 0)), (1, .int v1), (2, .int u2), (3, .int u3), (4, .int u4), (5, .int u5), (6, .int u6), (7, .ref (Z.1 43)), (8, .int u8), (9, .int u9)] []) (hk527 : ∀ (k n : Nat) (u3 : Int32) (u6 : Int32) (u8 : Int32) (u12 : Int32) (u13 : Int32) (M : Mem), k ≤ B527 → n ≤ 6 * k → k527 u3 u6 u8 u12 u13 M = some (r, M') → V X G Z M k n (QN X G (QcI G Zq r M') 4040 24240) 527 [(0, .ref (Z.1 0)), (1, .int v1), (2, .int v2), (3, .int u3), (4, .int v4), (5, .int v5), (6, .int u6), (7, .ref (Z.1 43)), (8, .int u8), (9, .int v9), (10, .int v10), (11, .int v11), (12, .int u12), (13, .int u13)] []) (hB31 : B31 ≤ 4040) (hB527 : B527 ≤ 4040) (s0 : Int32) (M : Mem) (hb527 : k + 4 ≤ B527) (hn : n ≤ 6 * k) (hf : f_L_beats_b962 v1 v2 v3 v4 v5 v6 v9 v10 v11 v12 v13 v14 v15 v16 v17 k31 k527 s0 M = some (r, M')) : V X G Z M k n (QN X G (QcI G Zq r M') 4040 24240) 962 [(0, .ref (Z.1 0)), (1, .int v1), (2, .int v2), (3, .int v3), (4, .int v4), (5, .int v5), (6, .int v6), (7, .ref (Z.1 43)), (9, .int v9), (10, .int v10), (11, .int v11), (12, .int v12), (13, .int v13), (14, .int v14), (15, .int v15), (16, .int v16), (17, .int v17)] [.int s0] := by
  unfold f_L_beats_b962 at hf
  refine r_iload hC dL_beats_962 14 rfl ?_
  refine r_if_le 971 hC dL_beats_964 (by decide) (fun h => ?_) (fun h => ?_)
  · have hf := if_T hf h
    refine r_iconst (v := 0) hC dL_beats_971 rfl ?_
    exact w_L_beats_b972 hC hz hZ h43 hzz v1 v2 v3 v4 v5 v6 v9 v10 v11 v12 v13 v14 v15 v16 v17 k31 k527 hk31 hk527 (by omega) (by omega) 0 s0 _ (by omega) (by omega) hf
  · have hf := if_F hf h
    refine r_iconst (v := 1) hC dL_beats_967 rfl ?_
    refine r_goto 972 hC dL_beats_968 (by decide) ?_
    exact w_L_beats_b972 hC hz hZ h43 hzz v1 v2 v3 v4 v5 v6 v9 v10 v11 v12 v13 v14 v15 v16 v17 k31 k527 hk31 hk527 (by omega) (by omega) 1 s0 _ (by omega) (by omega) hf
set_option maxRecDepth 20000 in
set_option maxHeartbeats 1000000 in
theorem w_L_beats_b943 {X : XX} {G : GG} {Z : ZZ} {r : Int32} {M' : Mem} {Zq : ZZ} {B31 : Nat} {B527 : Nat} {k n : Nat} (hC : Cx X G RL cL_beats (some .boolean) 10 4040 24240 23) (hz : ZOk G Z) (hZ : ZM Z) (h43 : At Z 43 (dA 0 4)) (hzz : Sub G Z Zq) (v1 : Int32) (v2 : Int32) (v3 : Int32) (v4 : Int32) (v5 : Int32) (v6 : Int32) (v9 : Int32) (v10 : Int32) (v11 : Int32) (v12 : Int32) (v13 : Int32) (v14 : Int32) (v15 : Int32) (v16 : Int32) (v17 : Int32) (k31 : Int32 → Int32 → Int32 → Int32 → Int32 → Int32 → Int32 → Mem → Option (Int32 × Mem)) (k527 : Int32 → Int32 → Int32 → Int32 → Int32 → Mem → Option (Int32 × Mem)) (hk31 : ∀ (k n : Nat) (u2 : Int32) (u3 : Int32) (u4 : Int32) (u5 : Int32) (u6 : Int32) (u8 : Int32) (u9 : Int32) (M : Mem), k ≤ B31 → n ≤ 6 * k → k31 u2 u3 u4 u5 u6 u8 u9 M = some (r, M') → V X G Z M k n (QN X G (QcI G Zq r M') 4040 24240) 31 [(0, .ref (Z.1 0)), (1, .int v1), (2, .int u2), (3, .int u3), (4, .int u4), (5, .int u5), (6, .int u6), (7, .ref (Z.1 43)), (8, .int u8), (9, .int u9)] []) (hk527 : ∀ (k n : Nat) (u3 : Int32) (u6 : Int32) (u8 : Int32) (u12 : Int32) (u13 : Int32) (M : Mem), k ≤ B527 → n ≤ 6 * k → k527 u3 u6 u8 u12 u13 M = some (r, M') → V X G Z M k n (QN X G (QcI G Zq r M') 4040 24240) 527 [(0, .ref (Z.1 0)), (1, .int v1), (2, .int v2), (3, .int u3), (4, .int v4), (5, .int v5), (6, .int u6), (7, .ref (Z.1 43)), (8, .int u8), (9, .int v9), (10, .int v10), (11, .int v11), (12, .int u12), (13, .int u13)] []) (hB31 : B31 ≤ 4040) (hB527 : B527 ≤ 4040)  (M : Mem) (hb527 : k + 5 ≤ B527) (hn : n ≤ 6 * k) (hf : f_L_beats_b943 v1 v2 v3 v4 v5 v6 v9 v10 v11 v12 v13 v14 v15 v16 v17 k31 k527 M = some (r, M')) : V X G Z M k n (QN X G (QcI G Zq r M') 4040 24240) 943 [(0, .ref (Z.1 0)), (1, .int v1), (2, .int v2), (3, .int v3), (4, .int v4), (5, .int v5), (6, .int v6), (7, .ref (Z.1 43)), (9, .int v9), (10, .int v10), (11, .int v11), (12, .int v12), (13, .int v13), (14, .int v14), (15, .int v15), (16, .int v16), (17, .int v17)] [] := by
  unfold f_L_beats_b943 at hf
  refine r_aload_n hC dL_beats_943 0 rfl ?_
  refine r_iload hC dL_beats_944 12 rfl ?_
  refine r_iload hC dL_beats_946 8 rfl ?_
  refine r_iconst (v := 0) hC dL_beats_948 rfl ?_
  refine r_wcall [] (fun r M1 h => c_L_tryNote (cx_st hC) hz hZ v13 v9 0 _ r M1 h) hf cs_L_155 hC rfl rfl (by decide) (by decide) (Nat.le_of_ble_eq_true rfl) (by omega) (by omega) dL_beats_949 (fun x95 M96 hf => ?_)
  refine r_bipush (v := (-9)) hC dL_beats_952 rfl ?_
  refine r_icmp_ne 961 hC dL_beats_954 (by decide) (fun h => ?_) (fun h => ?_)
  · have hf := if_F hf h
    refine r_iconst (v := 0) hC dL_beats_961 rfl ?_
    exact w_L_beats_b962 hC hz hZ h43 hzz v1 v2 v3 v4 v5 v6 v9 v10 v11 v12 v13 v14 v15 v16 v17 k31 k527 hk31 hk527 (by omega) (by omega) 0 _ (by omega) (by omega) hf
  · have hf := if_T hf h
    refine r_iconst (v := 1) hC dL_beats_957 rfl ?_
    refine r_goto 962 hC dL_beats_958 (by decide) ?_
    exact w_L_beats_b962 hC hz hZ h43 hzz v1 v2 v3 v4 v5 v6 v9 v10 v11 v12 v13 v14 v15 v16 v17 k31 k527 hk31 hk527 (by omega) (by omega) 1 _ (by omega) (by omega) hf
set_option maxRecDepth 20000 in
set_option maxHeartbeats 1000000 in
theorem w_L_beats_b923 {X : XX} {G : GG} {Z : ZZ} {r : Int32} {M' : Mem} {Zq : ZZ} {B31 : Nat} {B527 : Nat} {k n : Nat} (hC : Cx X G RL cL_beats (some .boolean) 10 4040 24240 23) (hz : ZOk G Z) (hZ : ZM Z) (h43 : At Z 43 (dA 0 4)) (hzz : Sub G Z Zq) (v1 : Int32) (v2 : Int32) (v3 : Int32) (v4 : Int32) (v5 : Int32) (v6 : Int32) (v9 : Int32) (v10 : Int32) (v11 : Int32) (v12 : Int32) (v13 : Int32) (v14 : Int32) (v15 : Int32) (v16 : Int32) (v17 : Int32) (v19 : Int32) (k31 : Int32 → Int32 → Int32 → Int32 → Int32 → Int32 → Int32 → Mem → Option (Int32 × Mem)) (k527 : Int32 → Int32 → Int32 → Int32 → Int32 → Mem → Option (Int32 × Mem)) (hk31 : ∀ (k n : Nat) (u2 : Int32) (u3 : Int32) (u4 : Int32) (u5 : Int32) (u6 : Int32) (u8 : Int32) (u9 : Int32) (M : Mem), k ≤ B31 → n ≤ 6 * k → k31 u2 u3 u4 u5 u6 u8 u9 M = some (r, M') → V X G Z M k n (QN X G (QcI G Zq r M') 4040 24240) 31 [(0, .ref (Z.1 0)), (1, .int v1), (2, .int u2), (3, .int u3), (4, .int u4), (5, .int u5), (6, .int u6), (7, .ref (Z.1 43)), (8, .int u8), (9, .int u9)] []) (hk527 : ∀ (k n : Nat) (u3 : Int32) (u6 : Int32) (u8 : Int32) (u12 : Int32) (u13 : Int32) (M : Mem), k ≤ B527 → n ≤ 6 * k → k527 u3 u6 u8 u12 u13 M = some (r, M') → V X G Z M k n (QN X G (QcI G Zq r M') 4040 24240) 527 [(0, .ref (Z.1 0)), (1, .int v1), (2, .int v2), (3, .int u3), (4, .int v4), (5, .int v5), (6, .int u6), (7, .ref (Z.1 43)), (8, .int u8), (9, .int v9), (10, .int v10), (11, .int v11), (12, .int u12), (13, .int u13)] []) (hB31 : B31 ≤ 4040) (hB527 : B527 ≤ 4040)  (M : Mem) (hb527 : k + 6 ≤ B527) (hn : n ≤ 6 * k) (hf : f_L_beats_b923 v1 v2 v3 v4 v5 v6 v9 v10 v11 v12 v13 v14 v15 v16 v17 v19 k31 k527 M = some (r, M')) : V X G Z M k n (QN X G (QcI G Zq r M') 4040 24240) 923 [(0, .ref (Z.1 0)), (1, .int v1), (2, .int v2), (3, .int v3), (4, .int v4), (5, .int v5), (6, .int v6), (7, .ref (Z.1 43)), (9, .int v9), (10, .int v10), (11, .int v11), (12, .int v12), (13, .int v13), (14, .int v14), (15, .int v15), (16, .int v16), (17, .int v17), (19, .int v19)] [] := by
  unfold f_L_beats_b923 at hf
  refine r_iload hC dL_beats_923 14 rfl ?_
  refine r_iconst (v := 2) hC dL_beats_925 rfl ?_
  refine r_icmp_ne 943 hC dL_beats_926 (by decide) (fun h => ?_) (fun h => ?_)
  · have hf := if_F hf h
    refine r_L [0, 1, 2, 3, 4, 5, 6, 7, 8, 9, 10, 11, 12, 13, 14, 15, 16] rfl ?_
    exact w_L_beats_b943 hC hz hZ h43 hzz v1 v2 v3 v4 v5 v6 v9 v10 v11 v12 v13 v14 v15 v16 v17 k31 k527 hk31 hk527 (by omega) (by omega)  _ (by omega) (by omega) hf
  · have hf := if_T hf h
    refine r_iload hC dL_beats_929 17 rfl ?_
    refine r_if_eq 1031 hC dL_beats_931 (by decide) (fun h => ?_) (fun h => ?_)
    · have hf := if_T hf h
      refine r_L [0, 1, 2, 3, 4, 5, 6, 7, 8, 9, 10, 11, 12, 13, 14, 15, 16] rfl ?_
      exact w_L_beats_b1031 hC hz hZ h43 hzz v1 v2 v3 v4 v5 v6 v9 v10 v11 v12 v13 v14 v15 v16 v17 k31 k527 hk31 hk527 (by omega) (by omega)  _ (by omega) (by omega) hf
    · have hf := if_F hf h
      refine r_aload_n hC dL_beats_934 0 rfl ?_
      refine r_iconst (v := 4) hC dL_beats_935 rfl ?_
      refine r_wcall [] (fun r M1 h => c_L_tryAbout (cx_st hC) hz hZ 4 _ r M1 h) hf cs_L_115 hC rfl rfl (by decide) (by decide) (Nat.le_of_ble_eq_true rfl) (by omega) (by omega) dL_beats_936 (fun x91 M92 hf => ?_)
      refine r_iconst (v := 1) hC dL_beats_939 rfl ?_
      refine r_icmp_ne 1031 hC dL_beats_940 (by decide) (fun h => ?_) (fun h => ?_)
      · have hf := if_F hf h
        refine r_L [0, 1, 2, 3, 4, 5, 6, 7, 8, 9, 10, 11, 12, 13, 14, 15, 16] rfl ?_
        exact w_L_beats_b1031 hC hz hZ h43 hzz v1 v2 v3 v4 v5 v6 v9 v10 v11 v12 v13 v14 v15 v16 v17 k31 k527 hk31 hk527 (by omega) (by omega)  _ (by omega) (by omega) hf
      · have hf := if_T hf h
        refine r_L [0, 1, 2, 3, 4, 5, 6, 7, 8, 9, 10, 11, 12, 13, 14, 15, 16] rfl ?_
        exact w_L_beats_b943 hC hz hZ h43 hzz v1 v2 v3 v4 v5 v6 v9 v10 v11 v12 v13 v14 v15 v16 v17 k31 k527 hk31 hk527 (by omega) (by omega)  _ (by omega) (by omega) hf
set_option maxRecDepth 20000 in
set_option maxHeartbeats 1000000 in
theorem w_L_beats_b912 {X : XX} {G : GG} {Z : ZZ} {r : Int32} {M' : Mem} {Zq : ZZ} {B31 : Nat} {B527 : Nat} {k n : Nat} (hC : Cx X G RL cL_beats (some .boolean) 10 4040 24240 23) (hz : ZOk G Z) (hZ : ZM Z) (h43 : At Z 43 (dA 0 4)) (hzz : Sub G Z Zq) (v1 : Int32) (v2 : Int32) (v3 : Int32) (v4 : Int32) (v5 : Int32) (v6 : Int32) (v9 : Int32) (v10 : Int32) (v11 : Int32) (v12 : Int32) (v13 : Int32) (v14 : Int32) (v15 : Int32) (v16 : Int32) (v17 : Int32) (v18 : Int32) (v19 : Int32) (k31 : Int32 → Int32 → Int32 → Int32 → Int32 → Int32 → Int32 → Mem → Option (Int32 × Mem)) (k527 : Int32 → Int32 → Int32 → Int32 → Int32 → Mem → Option (Int32 × Mem)) (hk31 : ∀ (k n : Nat) (u2 : Int32) (u3 : Int32) (u4 : Int32) (u5 : Int32) (u6 : Int32) (u8 : Int32) (u9 : Int32) (M : Mem), k ≤ B31 → n ≤ 6 * k → k31 u2 u3 u4 u5 u6 u8 u9 M = some (r, M') → V X G Z M k n (QN X G (QcI G Zq r M') 4040 24240) 31 [(0, .ref (Z.1 0)), (1, .int v1), (2, .int u2), (3, .int u3), (4, .int u4), (5, .int u5), (6, .int u6), (7, .ref (Z.1 43)), (8, .int u8), (9, .int u9)] []) (hk527 : ∀ (k n : Nat) (u3 : Int32) (u6 : Int32) (u8 : Int32) (u12 : Int32) (u13 : Int32) (M : Mem), k ≤ B527 → n ≤ 6 * k → k527 u3 u6 u8 u12 u13 M = some (r, M') → V X G Z M k n (QN X G (QcI G Zq r M') 4040 24240) 527 [(0, .ref (Z.1 0)), (1, .int v1), (2, .int v2), (3, .int u3), (4, .int v4), (5, .int v5), (6, .int u6), (7, .ref (Z.1 43)), (8, .int u8), (9, .int v9), (10, .int v10), (11, .int v11), (12, .int u12), (13, .int u13)] []) (hB31 : B31 ≤ 4040) (hB527 : B527 ≤ 4040)  (M : Mem) (hb527 : k + 6 ≤ B527) (hn : n ≤ 6 * k) (hf : f_L_beats_b912 v1 v2 v3 v4 v5 v6 v9 v10 v11 v12 v13 v14 v15 v16 v17 v18 v19 k31 k527 M = some (r, M')) : V X G Z M k n (QN X G (QcI G Zq r M') 4040 24240) 912 [(0, .ref (Z.1 0)), (1, .int v1), (2, .int v2), (3, .int v3), (4, .int v4), (5, .int v5), (6, .int v6), (7, .ref (Z.1 43)), (9, .int v9), (10, .int v10), (11, .int v11), (12, .int v12), (13, .int v13), (14, .int v14), (15, .int v15), (16, .int v16), (17, .int v17), (18, .int v18), (19, .int v19)] [] := by
  unfold f_L_beats_b912 at hf
  refine r_iload hC dL_beats_912 14 rfl ?_
  refine r_iconst (v := 1) hC dL_beats_914 rfl ?_
  refine r_icmp_ne 923 hC dL_beats_915 (by decide) (fun h => ?_) (fun h => ?_)
  · have hf := if_F hf h
    refine r_L [0, 1, 2, 3, 4, 5, 6, 7, 8, 9, 10, 11, 12, 13, 14, 15, 16, 18] rfl ?_
    exact w_L_beats_b923 hC hz hZ h43 hzz v1 v2 v3 v4 v5 v6 v9 v10 v11 v12 v13 v14 v15 v16 v17 v19 k31 k527 hk31 hk527 (by omega) (by omega)  _ (by omega) (by omega) hf
  · have hf := if_T hf h
    refine r_iload hC dL_beats_918 17 rfl ?_
    refine r_if_eq 1031 hC dL_beats_920 (by decide) (fun h => ?_) (fun h => ?_)
    · have hf := if_T hf h
      refine r_L [0, 1, 2, 3, 4, 5, 6, 7, 8, 9, 10, 11, 12, 13, 14, 15, 16] rfl ?_
      exact w_L_beats_b1031 hC hz hZ h43 hzz v1 v2 v3 v4 v5 v6 v9 v10 v11 v12 v13 v14 v15 v16 v17 k31 k527 hk31 hk527 (by omega) (by omega)  _ (by omega) (by omega) hf
    · have hf := if_F hf h
      refine r_L [0, 1, 2, 3, 4, 5, 6, 7, 8, 9, 10, 11, 12, 13, 14, 15, 16, 18] rfl ?_
      exact w_L_beats_b923 hC hz hZ h43 hzz v1 v2 v3 v4 v5 v6 v9 v10 v11 v12 v13 v14 v15 v16 v17 v19 k31 k527 hk31 hk527 (by omega) (by omega)  _ (by omega) (by omega) hf
set_option maxRecDepth 20000 in
set_option maxHeartbeats 1000000 in
theorem w_L_beats_b889 {X : XX} {G : GG} {Z : ZZ} {r : Int32} {M' : Mem} {Zq : ZZ} {B31 : Nat} {B527 : Nat} {k n : Nat} (hC : Cx X G RL cL_beats (some .boolean) 10 4040 24240 23) (hz : ZOk G Z) (hZ : ZM Z) (h43 : At Z 43 (dA 0 4)) (hzz : Sub G Z Zq) (v1 : Int32) (v2 : Int32) (v3 : Int32) (v4 : Int32) (v5 : Int32) (v6 : Int32) (v9 : Int32) (v10 : Int32) (v11 : Int32) (v12 : Int32) (v13 : Int32) (v14 : Int32) (v15 : Int32) (v16 : Int32) (v17 : Int32) (v18 : Int32) (v19 : Int32) (k31 : Int32 → Int32 → Int32 → Int32 → Int32 → Int32 → Int32 → Mem → Option (Int32 × Mem)) (k527 : Int32 → Int32 → Int32 → Int32 → Int32 → Mem → Option (Int32 × Mem)) (hk31 : ∀ (k n : Nat) (u2 : Int32) (u3 : Int32) (u4 : Int32) (u5 : Int32) (u6 : Int32) (u8 : Int32) (u9 : Int32) (M : Mem), k ≤ B31 → n ≤ 6 * k → k31 u2 u3 u4 u5 u6 u8 u9 M = some (r, M') → V X G Z M k n (QN X G (QcI G Zq r M') 4040 24240) 31 [(0, .ref (Z.1 0)), (1, .int v1), (2, .int u2), (3, .int u3), (4, .int u4), (5, .int u5), (6, .int u6), (7, .ref (Z.1 43)), (8, .int u8), (9, .int u9)] []) (hk527 : ∀ (k n : Nat) (u3 : Int32) (u6 : Int32) (u8 : Int32) (u12 : Int32) (u13 : Int32) (M : Mem), k ≤ B527 → n ≤ 6 * k → k527 u3 u6 u8 u12 u13 M = some (r, M') → V X G Z M k n (QN X G (QcI G Zq r M') 4040 24240) 527 [(0, .ref (Z.1 0)), (1, .int v1), (2, .int v2), (3, .int u3), (4, .int v4), (5, .int v5), (6, .int u6), (7, .ref (Z.1 43)), (8, .int u8), (9, .int v9), (10, .int v10), (11, .int v11), (12, .int u12), (13, .int u13)] []) (hB31 : B31 ≤ 4040) (hB527 : B527 ≤ 4040) (s0 : Int32) (M : Mem) (hb527 : k + 6 ≤ B527) (hn : n ≤ 6 * k) (hf : f_L_beats_b889 v1 v2 v3 v4 v5 v6 v9 v10 v11 v12 v13 v14 v15 v16 v17 v18 v19 k31 k527 s0 M = some (r, M')) : V X G Z M k n (QN X G (QcI G Zq r M') 4040 24240) 889 [(0, .ref (Z.1 0)), (1, .int v1), (2, .int v2), (3, .int v3), (4, .int v4), (5, .int v5), (6, .int v6), (7, .ref (Z.1 43)), (9, .int v9), (10, .int v10), (11, .int v11), (12, .int v12), (13, .int v13), (14, .int v14), (15, .int v15), (16, .int v16), (17, .int v17), (18, .int v18), (19, .int v19)] [.int s0] := by
  unfold f_L_beats_b889 at hf
  refine r_istore (L' := [(20, .int s0), (0, .ref (Z.1 0)), (1, .int v1), (2, .int v2), (3, .int v3), (4, .int v4), (5, .int v5), (6, .int v6), (7, .ref (Z.1 43)), (9, .int v9), (10, .int v10), (11, .int v11), (12, .int v12), (13, .int v13), (14, .int v14), (15, .int v15), (16, .int v16), (17, .int v17), (18, .int v18), (19, .int v19)]) hC dL_beats_889 (by decide) rfl ?_
  refine r_iload hC dL_beats_891 15 rfl ?_
  refine r_if_lt 1031 hC dL_beats_893 (by decide) (fun h => ?_) (fun h => ?_)
  · have hf := if_T hf h
    refine r_L [1, 2, 3, 4, 5, 6, 7, 8, 9, 10, 11, 12, 13, 14, 15, 16, 17] rfl ?_
    exact w_L_beats_b1031 hC hz hZ h43 hzz v1 v2 v3 v4 v5 v6 v9 v10 v11 v12 v13 v14 v15 v16 v17 k31 k527 hk31 hk527 (by omega) (by omega)  _ (by omega) (by omega) hf
  · have hf := if_F hf h
    refine r_iload hC dL_beats_896 15 rfl ?_
    refine r_iconst (v := 4) hC dL_beats_898 rfl ?_
    refine r_icmp_ge 1031 hC dL_beats_899 (by decide) (fun h => ?_) (fun h => ?_)
    · have hf := if_T hf h
      refine r_L [1, 2, 3, 4, 5, 6, 7, 8, 9, 10, 11, 12, 13, 14, 15, 16, 17] rfl ?_
      exact w_L_beats_b1031 hC hz hZ h43 hzz v1 v2 v3 v4 v5 v6 v9 v10 v11 v12 v13 v14 v15 v16 v17 k31 k527 hk31 hk527 (by omega) (by omega)  _ (by omega) (by omega) hf
    · have hf := if_F hf h
      refine r_iload hC dL_beats_902 15 rfl ?_
      refine r_if_eq 912 hC dL_beats_904 (by decide) (fun h => ?_) (fun h => ?_)
      · have hf := if_T hf h
        refine r_L [1, 2, 3, 4, 5, 6, 7, 8, 9, 10, 11, 12, 13, 14, 15, 16, 17, 18, 19] rfl ?_
        exact w_L_beats_b912 hC hz hZ h43 hzz v1 v2 v3 v4 v5 v6 v9 v10 v11 v12 v13 v14 v15 v16 v17 v18 v19 k31 k527 hk31 hk527 (by omega) (by omega)  _ (by omega) (by omega) hf
      · have hf := if_F hf h
        refine r_iload hC dL_beats_907 0 rfl ?_
        refine r_if_eq 1031 hC dL_beats_909 (by decide) (fun h => ?_) (fun h => ?_)
        · have hf := if_T hf h
          refine r_L [1, 2, 3, 4, 5, 6, 7, 8, 9, 10, 11, 12, 13, 14, 15, 16, 17] rfl ?_
          exact w_L_beats_b1031 hC hz hZ h43 hzz v1 v2 v3 v4 v5 v6 v9 v10 v11 v12 v13 v14 v15 v16 v17 k31 k527 hk31 hk527 (by omega) (by omega)  _ (by omega) (by omega) hf
        · have hf := if_F hf h
          refine r_L [1, 2, 3, 4, 5, 6, 7, 8, 9, 10, 11, 12, 13, 14, 15, 16, 17, 18, 19] rfl ?_
          exact w_L_beats_b912 hC hz hZ h43 hzz v1 v2 v3 v4 v5 v6 v9 v10 v11 v12 v13 v14 v15 v16 v17 v18 v19 k31 k527 hk31 hk527 (by omega) (by omega)  _ (by omega) (by omega) hf
set_option maxRecDepth 20000 in
set_option maxHeartbeats 1000000 in
theorem w_L_beats_b888 {X : XX} {G : GG} {Z : ZZ} {r : Int32} {M' : Mem} {Zq : ZZ} {B31 : Nat} {B527 : Nat} {k n : Nat} (hC : Cx X G RL cL_beats (some .boolean) 10 4040 24240 23) (hz : ZOk G Z) (hZ : ZM Z) (h43 : At Z 43 (dA 0 4)) (hzz : Sub G Z Zq) (v1 : Int32) (v2 : Int32) (v3 : Int32) (v4 : Int32) (v5 : Int32) (v6 : Int32) (v9 : Int32) (v10 : Int32) (v11 : Int32) (v12 : Int32) (v13 : Int32) (v14 : Int32) (v15 : Int32) (v16 : Int32) (v17 : Int32) (v18 : Int32) (v19 : Int32) (k31 : Int32 → Int32 → Int32 → Int32 → Int32 → Int32 → Int32 → Mem → Option (Int32 × Mem)) (k527 : Int32 → Int32 → Int32 → Int32 → Int32 → Mem → Option (Int32 × Mem)) (hk31 : ∀ (k n : Nat) (u2 : Int32) (u3 : Int32) (u4 : Int32) (u5 : Int32) (u6 : Int32) (u8 : Int32) (u9 : Int32) (M : Mem), k ≤ B31 → n ≤ 6 * k → k31 u2 u3 u4 u5 u6 u8 u9 M = some (r, M') → V X G Z M k n (QN X G (QcI G Zq r M') 4040 24240) 31 [(0, .ref (Z.1 0)), (1, .int v1), (2, .int u2), (3, .int u3), (4, .int u4), (5, .int u5), (6, .int u6), (7, .ref (Z.1 43)), (8, .int u8), (9, .int u9)] []) (hk527 : ∀ (k n : Nat) (u3 : Int32) (u6 : Int32) (u8 : Int32) (u12 : Int32) (u13 : Int32) (M : Mem), k ≤ B527 → n ≤ 6 * k → k527 u3 u6 u8 u12 u13 M = some (r, M') → V X G Z M k n (QN X G (QcI G Zq r M') 4040 24240) 527 [(0, .ref (Z.1 0)), (1, .int v1), (2, .int v2), (3, .int u3), (4, .int v4), (5, .int v5), (6, .int u6), (7, .ref (Z.1 43)), (8, .int u8), (9, .int v9), (10, .int v10), (11, .int v11), (12, .int u12), (13, .int u13)] []) (hB31 : B31 ≤ 4040) (hB527 : B527 ≤ 4040)  (M : Mem) (hb527 : k + 6 ≤ B527) (hn : n ≤ 6 * k) (hf : f_L_beats_b888 v1 v2 v3 v4 v5 v6 v9 v10 v11 v12 v13 v14 v15 v16 v17 v18 v19 k31 k527 M = some (r, M')) : V X G Z M k n (QN X G (QcI G Zq r M') 4040 24240) 888 [(0, .ref (Z.1 0)), (1, .int v1), (2, .int v2), (3, .int v3), (4, .int v4), (5, .int v5), (6, .int v6), (7, .ref (Z.1 43)), (9, .int v9), (10, .int v10), (11, .int v11), (12, .int v12), (13, .int v13), (14, .int v14), (15, .int v15), (16, .int v16), (17, .int v17), (18, .int v18), (19, .int v19)] [] := by
  unfold f_L_beats_b888 at hf
  refine r_iconst (v := 0) hC dL_beats_888 rfl ?_
  exact w_L_beats_b889 hC hz hZ h43 hzz v1 v2 v3 v4 v5 v6 v9 v10 v11 v12 v13 v14 v15 v16 v17 v18 v19 k31 k527 hk31 hk527 (by omega) (by omega) 0 _ (by omega) (by omega) hf
set_option maxRecDepth 20000 in
set_option maxHeartbeats 1000000 in
theorem w_L_beats_b868 {X : XX} {G : GG} {Z : ZZ} {r : Int32} {M' : Mem} {Zq : ZZ} {B31 : Nat} {B527 : Nat} {k n : Nat} (hC : Cx X G RL cL_beats (some .boolean) 10 4040 24240 23) (hz : ZOk G Z) (hZ : ZM Z) (h43 : At Z 43 (dA 0 4)) (hzz : Sub G Z Zq) (v1 : Int32) (v2 : Int32) (v3 : Int32) (v4 : Int32) (v5 : Int32) (v6 : Int32) (v9 : Int32) (v10 : Int32) (v11 : Int32) (v13 : Int32) (v14 : Int32) (v15 : Int32) (v16 : Int32) (v17 : Int32) (v18 : Int32) (v19 : Int32) (k31 : Int32 → Int32 → Int32 → Int32 → Int32 → Int32 → Int32 → Mem → Option (Int32 × Mem)) (k527 : Int32 → Int32 → Int32 → Int32 → Int32 → Mem → Option (Int32 × Mem)) (hk31 : ∀ (k n : Nat) (u2 : Int32) (u3 : Int32) (u4 : Int32) (u5 : Int32) (u6 : Int32) (u8 : Int32) (u9 : Int32) (M : Mem), k ≤ B31 → n ≤ 6 * k → k31 u2 u3 u4 u5 u6 u8 u9 M = some (r, M') → V X G Z M k n (QN X G (QcI G Zq r M') 4040 24240) 31 [(0, .ref (Z.1 0)), (1, .int v1), (2, .int u2), (3, .int u3), (4, .int u4), (5, .int u5), (6, .int u6), (7, .ref (Z.1 43)), (8, .int u8), (9, .int u9)] []) (hk527 : ∀ (k n : Nat) (u3 : Int32) (u6 : Int32) (u8 : Int32) (u12 : Int32) (u13 : Int32) (M : Mem), k ≤ B527 → n ≤ 6 * k → k527 u3 u6 u8 u12 u13 M = some (r, M') → V X G Z M k n (QN X G (QcI G Zq r M') 4040 24240) 527 [(0, .ref (Z.1 0)), (1, .int v1), (2, .int v2), (3, .int u3), (4, .int v4), (5, .int v5), (6, .int u6), (7, .ref (Z.1 43)), (8, .int u8), (9, .int v9), (10, .int v10), (11, .int v11), (12, .int u12), (13, .int u13)] []) (hB31 : B31 ≤ 4040) (hB527 : B527 ≤ 4040) (s0 : Int32) (s1 : Int32) (M : Mem) (hb527 : k + 6 ≤ B527) (hn : n ≤ 6 * k) (hf : f_L_beats_b868 v1 v2 v3 v4 v5 v6 v9 v10 v11 v13 v14 v15 v16 v17 v18 v19 k31 k527 s0 s1 M = some (r, M')) : V X G Z M k n (QN X G (QcI G Zq r M') 4040 24240) 868 [(0, .ref (Z.1 0)), (1, .int v1), (2, .int v2), (3, .int v3), (4, .int v4), (5, .int v5), (6, .int v6), (7, .ref (Z.1 43)), (9, .int v9), (10, .int v10), (11, .int v11), (13, .int v13), (14, .int v14), (15, .int v15), (16, .int v16), (17, .int v17), (18, .int v18), (19, .int v19)] [.int s0, .int s1] := by
  unfold f_L_beats_b868 at hf
  refine r_iadd hC dL_beats_868 ?_
  refine r_istore (L' := [(12, .int (s1 + s0)), (0, .ref (Z.1 0)), (1, .int v1), (2, .int v2), (3, .int v3), (4, .int v4), (5, .int v5), (6, .int v6), (7, .ref (Z.1 43)), (9, .int v9), (10, .int v10), (11, .int v11), (13, .int v13), (14, .int v14), (15, .int v15), (16, .int v16), (17, .int v17), (18, .int v18), (19, .int v19)]) hC dL_beats_869 (by decide) rfl ?_
  refine r_iload hC dL_beats_871 12 rfl ?_
  refine r_if_le 888 hC dL_beats_873 (by decide) (fun h => ?_) (fun h => ?_)
  · have hf := if_T hf h
    refine r_L [1, 2, 3, 4, 5, 6, 7, 8, 9, 10, 11, 0, 12, 13, 14, 15, 16, 17, 18] rfl ?_
    exact w_L_beats_b888 hC hz hZ h43 hzz v1 v2 v3 v4 v5 v6 v9 v10 v11 (s1 + s0) v13 v14 v15 v16 v17 v18 v19 k31 k527 hk31 hk527 (by omega) (by omega)  _ (by omega) (by omega) hf
  · have hf := if_F hf h
    refine r_iload hC dL_beats_876 12 rfl ?_
    refine r_iload_n hC dL_beats_878 2 rfl ?_
    refine r_iconst (v := 1) hC dL_beats_879 rfl ?_
    refine r_isub hC dL_beats_880 ?_
    refine r_icmp_ge 888 hC dL_beats_881 (by decide) (fun h => ?_) (fun h => ?_)
    · have hf := if_T hf h
      refine r_L [1, 2, 3, 4, 5, 6, 7, 8, 9, 10, 11, 0, 12, 13, 14, 15, 16, 17, 18] rfl ?_
      exact w_L_beats_b888 hC hz hZ h43 hzz v1 v2 v3 v4 v5 v6 v9 v10 v11 (s1 + s0) v13 v14 v15 v16 v17 v18 v19 k31 k527 hk31 hk527 (by omega) (by omega)  _ (by omega) (by omega) hf
    · have hf := if_F hf h
      refine r_iconst (v := 1) hC dL_beats_884 rfl ?_
      refine r_goto 889 hC dL_beats_885 (by decide) ?_
      refine r_L [1, 2, 3, 4, 5, 6, 7, 8, 9, 10, 11, 0, 12, 13, 14, 15, 16, 17, 18] rfl ?_
      exact w_L_beats_b889 hC hz hZ h43 hzz v1 v2 v3 v4 v5 v6 v9 v10 v11 (s1 + s0) v13 v14 v15 v16 v17 v18 v19 k31 k527 hk31 hk527 (by omega) (by omega) 1 _ (by omega) (by omega) hf
set_option maxRecDepth 20000 in
set_option maxHeartbeats 1000000 in
theorem w_L_beats_b853 {X : XX} {G : GG} {Z : ZZ} {r : Int32} {M' : Mem} {Zq : ZZ} {B31 : Nat} {B527 : Nat} {k n : Nat} (hC : Cx X G RL cL_beats (some .boolean) 10 4040 24240 23) (hz : ZOk G Z) (hZ : ZM Z) (h43 : At Z 43 (dA 0 4)) (hzz : Sub G Z Zq) (v1 : Int32) (v2 : Int32) (v4 : Int32) (v5 : Int32) (v6 : Int32) (v9 : Int32) (v10 : Int32) (v11 : Int32) (v12 : Int32) (v13 : Int32) (v14 : Int32) (v15 : Int32) (v16 : Int32) (v17 : Int32) (v18 : Int32) (v19 : Int32) (k31 : Int32 → Int32 → Int32 → Int32 → Int32 → Int32 → Int32 → Mem → Option (Int32 × Mem)) (k527 : Int32 → Int32 → Int32 → Int32 → Int32 → Mem → Option (Int32 × Mem)) (hk31 : ∀ (k n : Nat) (u2 : Int32) (u3 : Int32) (u4 : Int32) (u5 : Int32) (u6 : Int32) (u8 : Int32) (u9 : Int32) (M : Mem), k ≤ B31 → n ≤ 6 * k → k31 u2 u3 u4 u5 u6 u8 u9 M = some (r, M') → V X G Z M k n (QN X G (QcI G Zq r M') 4040 24240) 31 [(0, .ref (Z.1 0)), (1, .int v1), (2, .int u2), (3, .int u3), (4, .int u4), (5, .int u5), (6, .int u6), (7, .ref (Z.1 43)), (8, .int u8), (9, .int u9)] []) (hk527 : ∀ (k n : Nat) (u3 : Int32) (u6 : Int32) (u8 : Int32) (u12 : Int32) (u13 : Int32) (M : Mem), k ≤ B527 → n ≤ 6 * k → k527 u3 u6 u8 u12 u13 M = some (r, M') → V X G Z M k n (QN X G (QcI G Zq r M') 4040 24240) 527 [(0, .ref (Z.1 0)), (1, .int v1), (2, .int v2), (3, .int u3), (4, .int v4), (5, .int v5), (6, .int u6), (7, .ref (Z.1 43)), (8, .int u8), (9, .int v9), (10, .int v10), (11, .int v11), (12, .int u12), (13, .int u13)] []) (hB31 : B31 ≤ 4040) (hB527 : B527 ≤ 4040) (s0 : Int32) (s1 : Int32) (M : Mem) (hb527 : k + 6 ≤ B527) (hn : n ≤ 6 * k) (hf : f_L_beats_b853 v1 v2 v4 v5 v6 v9 v10 v11 v12 v13 v14 v15 v16 v17 v18 v19 k31 k527 s0 s1 M = some (r, M')) : V X G Z M k n (QN X G (QcI G Zq r M') 4040 24240) 853 [(0, .ref (Z.1 0)), (1, .int v1), (2, .int v2), (4, .int v4), (5, .int v5), (6, .int v6), (7, .ref (Z.1 43)), (9, .int v9), (10, .int v10), (11, .int v11), (12, .int v12), (13, .int v13), (14, .int v14), (15, .int v15), (16, .int v16), (17, .int v17), (18, .int v18), (19, .int v19)] [.int s0, .int s1] := by
  unfold f_L_beats_b853 at hf
  refine r_iadd hC dL_beats_853 ?_
  refine r_istore_n (L' := [(3, .int (s1 + s0)), (0, .ref (Z.1 0)), (1, .int v1), (2, .int v2), (4, .int v4), (5, .int v5), (6, .int v6), (7, .ref (Z.1 43)), (9, .int v9), (10, .int v10), (11, .int v11), (12, .int v12), (13, .int v13), (14, .int v14), (15, .int v15), (16, .int v16), (17, .int v17), (18, .int v18), (19, .int v19)]) hC dL_beats_854 (by decide) rfl ?_
  refine r_iload hC dL_beats_855 11 rfl ?_
  refine r_iload hC dL_beats_857 16 rfl ?_
  refine r_if_eq 867 hC dL_beats_859 (by decide) (fun h => ?_) (fun h => ?_)
  · have hf := if_T hf h
    refine r_iconst (v := 0) hC dL_beats_867 rfl ?_
    refine r_L [1, 2, 3, 0, 4, 5, 6, 7, 8, 9, 10, 12, 13, 14, 15, 16, 17, 18] rfl ?_
    exact w_L_beats_b868 hC hz hZ h43 hzz v1 v2 (s1 + s0) v4 v5 v6 v9 v10 v11 v13 v14 v15 v16 v17 v18 v19 k31 k527 hk31 hk527 (by omega) (by omega) 0 v12 _ (by omega) (by omega) hf
  · have hf := if_F hf h
    refine r_bipush (v := 10) hC dL_beats_862 rfl ?_
    refine r_goto 868 hC dL_beats_864 (by decide) ?_
    refine r_L [1, 2, 3, 0, 4, 5, 6, 7, 8, 9, 10, 12, 13, 14, 15, 16, 17, 18] rfl ?_
    exact w_L_beats_b868 hC hz hZ h43 hzz v1 v2 (s1 + s0) v4 v5 v6 v9 v10 v11 v13 v14 v15 v16 v17 v18 v19 k31 k527 hk31 hk527 (by omega) (by omega) 10 v12 _ (by omega) (by omega) hf
set_option maxRecDepth 20000 in
set_option maxHeartbeats 1000000 in
theorem w_L_beats_b839 {X : XX} {G : GG} {Z : ZZ} {r : Int32} {M' : Mem} {Zq : ZZ} {B31 : Nat} {B527 : Nat} {k n : Nat} (hC : Cx X G RL cL_beats (some .boolean) 10 4040 24240 23) (hz : ZOk G Z) (hZ : ZM Z) (h43 : At Z 43 (dA 0 4)) (hzz : Sub G Z Zq) (v1 : Int32) (v2 : Int32) (v3 : Int32) (v4 : Int32) (v5 : Int32) (v9 : Int32) (v10 : Int32) (v11 : Int32) (v12 : Int32) (v13 : Int32) (v14 : Int32) (v15 : Int32) (v16 : Int32) (v17 : Int32) (v18 : Int32) (v19 : Int32) (k31 : Int32 → Int32 → Int32 → Int32 → Int32 → Int32 → Int32 → Mem → Option (Int32 × Mem)) (k527 : Int32 → Int32 → Int32 → Int32 → Int32 → Mem → Option (Int32 × Mem)) (hk31 : ∀ (k n : Nat) (u2 : Int32) (u3 : Int32) (u4 : Int32) (u5 : Int32) (u6 : Int32) (u8 : Int32) (u9 : Int32) (M : Mem), k ≤ B31 → n ≤ 6 * k → k31 u2 u3 u4 u5 u6 u8 u9 M = some (r, M') → V X G Z M k n (QN X G (QcI G Zq r M') 4040 24240) 31 [(0, .ref (Z.1 0)), (1, .int v1), (2, .int u2), (3, .int u3), (4, .int u4), (5, .int u5), (6, .int u6), (7, .ref (Z.1 43)), (8, .int u8), (9, .int u9)] []) (hk527 : ∀ (k n : Nat) (u3 : Int32) (u6 : Int32) (u8 : Int32) (u12 : Int32) (u13 : Int32) (M : Mem), k ≤ B527 → n ≤ 6 * k → k527 u3 u6 u8 u12 u13 M = some (r, M') → V X G Z M k n (QN X G (QcI G Zq r M') 4040 24240) 527 [(0, .ref (Z.1 0)), (1, .int v1), (2, .int v2), (3, .int u3), (4, .int v4), (5, .int v5), (6, .int u6), (7, .ref (Z.1 43)), (8, .int u8), (9, .int v9), (10, .int v10), (11, .int v11), (12, .int u12), (13, .int u13)] []) (hB31 : B31 ≤ 4040) (hB527 : B527 ≤ 4040) (s0 : Int32) (s1 : Int32) (M : Mem) (hb527 : k + 6 ≤ B527) (hn : n ≤ 6 * k) (hf : f_L_beats_b839 v1 v2 v3 v4 v5 v9 v10 v11 v12 v13 v14 v15 v16 v17 v18 v19 k31 k527 s0 s1 M = some (r, M')) : V X G Z M k n (QN X G (QcI G Zq r M') 4040 24240) 839 [(0, .ref (Z.1 0)), (1, .int v1), (2, .int v2), (3, .int v3), (4, .int v4), (5, .int v5), (7, .ref (Z.1 43)), (9, .int v9), (10, .int v10), (11, .int v11), (12, .int v12), (13, .int v13), (14, .int v14), (15, .int v15), (16, .int v16), (17, .int v17), (18, .int v18), (19, .int v19)] [.int s0, .int s1] := by
  unfold f_L_beats_b839 at hf
  refine r_iadd hC dL_beats_839 ?_
  refine r_istore (L' := [(6, .int (s1 + s0)), (0, .ref (Z.1 0)), (1, .int v1), (2, .int v2), (3, .int v3), (4, .int v4), (5, .int v5), (7, .ref (Z.1 43)), (9, .int v9), (10, .int v10), (11, .int v11), (12, .int v12), (13, .int v13), (14, .int v14), (15, .int v15), (16, .int v16), (17, .int v17), (18, .int v18), (19, .int v19)]) hC dL_beats_840 (by decide) rfl ?_
  refine r_iload_n hC dL_beats_842 4 rfl ?_
  refine r_iload hC dL_beats_843 16 rfl ?_
  refine r_if_eq 852 hC dL_beats_845 (by decide) (fun h => ?_) (fun h => ?_)
  · have hf := if_T hf h
    refine r_iconst (v := 0) hC dL_beats_852 rfl ?_
    refine r_L [1, 2, 3, 5, 6, 0, 7, 8, 9, 10, 11, 12, 13, 14, 15, 16, 17, 18] rfl ?_
    exact w_L_beats_b853 hC hz hZ h43 hzz v1 v2 v4 v5 (s1 + s0) v9 v10 v11 v12 v13 v14 v15 v16 v17 v18 v19 k31 k527 hk31 hk527 (by omega) (by omega) 0 v3 _ (by omega) (by omega) hf
  · have hf := if_F hf h
    refine r_iconst (v := 1) hC dL_beats_848 rfl ?_
    refine r_goto 853 hC dL_beats_849 (by decide) ?_
    refine r_L [1, 2, 3, 5, 6, 0, 7, 8, 9, 10, 11, 12, 13, 14, 15, 16, 17, 18] rfl ?_
    exact w_L_beats_b853 hC hz hZ h43 hzz v1 v2 v4 v5 (s1 + s0) v9 v10 v11 v12 v13 v14 v15 v16 v17 v18 v19 k31 k527 hk31 hk527 (by omega) (by omega) 1 v3 _ (by omega) (by omega) hf
set_option maxRecDepth 20000 in
set_option maxHeartbeats 1000000 in
theorem w_L_beats_b834 {X : XX} {G : GG} {Z : ZZ} {r : Int32} {M' : Mem} {Zq : ZZ} {B31 : Nat} {B527 : Nat} {k n : Nat} (hC : Cx X G RL cL_beats (some .boolean) 10 4040 24240 23) (hz : ZOk G Z) (hZ : ZM Z) (h43 : At Z 43 (dA 0 4)) (hzz : Sub G Z Zq) (v1 : Int32) (v2 : Int32) (v3 : Int32) (v4 : Int32) (v5 : Int32) (v9 : Int32) (v10 : Int32) (v11 : Int32) (v12 : Int32) (v13 : Int32) (v14 : Int32) (v15 : Int32) (v16 : Int32) (v17 : Int32) (v18 : Int32) (v19 : Int32) (k31 : Int32 → Int32 → Int32 → Int32 → Int32 → Int32 → Int32 → Mem → Option (Int32 × Mem)) (k527 : Int32 → Int32 → Int32 → Int32 → Int32 → Mem → Option (Int32 × Mem)) (hk31 : ∀ (k n : Nat) (u2 : Int32) (u3 : Int32) (u4 : Int32) (u5 : Int32) (u6 : Int32) (u8 : Int32) (u9 : Int32) (M : Mem), k ≤ B31 → n ≤ 6 * k → k31 u2 u3 u4 u5 u6 u8 u9 M = some (r, M') → V X G Z M k n (QN X G (QcI G Zq r M') 4040 24240) 31 [(0, .ref (Z.1 0)), (1, .int v1), (2, .int u2), (3, .int u3), (4, .int u4), (5, .int u5), (6, .int u6), (7, .ref (Z.1 43)), (8, .int u8), (9, .int u9)] []) (hk527 : ∀ (k n : Nat) (u3 : Int32) (u6 : Int32) (u8 : Int32) (u12 : Int32) (u13 : Int32) (M : Mem), k ≤ B527 → n ≤ 6 * k → k527 u3 u6 u8 u12 u13 M = some (r, M') → V X G Z M k n (QN X G (QcI G Zq r M') 4040 24240) 527 [(0, .ref (Z.1 0)), (1, .int v1), (2, .int v2), (3, .int u3), (4, .int v4), (5, .int v5), (6, .int u6), (7, .ref (Z.1 43)), (8, .int u8), (9, .int v9), (10, .int v10), (11, .int v11), (12, .int u12), (13, .int u13)] []) (hB31 : B31 ≤ 4040) (hB527 : B527 ≤ 4040) (s0 : Int32) (M : Mem) (hb527 : k + 6 ≤ B527) (hn : n ≤ 6 * k) (hf : f_L_beats_b834 v1 v2 v3 v4 v5 v9 v10 v11 v12 v13 v14 v15 v16 v17 v18 v19 k31 k527 s0 M = some (r, M')) : V X G Z M k n (QN X G (QcI G Zq r M') 4040 24240) 834 [(0, .ref (Z.1 0)), (1, .int v1), (2, .int v2), (3, .int v3), (4, .int v4), (5, .int v5), (7, .ref (Z.1 43)), (9, .int v9), (10, .int v10), (11, .int v11), (12, .int v12), (13, .int v13), (14, .int v14), (15, .int v15), (16, .int v16), (17, .int v17), (18, .int v18), (19, .int v19)] [.int s0] := by
  unfold f_L_beats_b834 at hf
  refine r_iconst (v := 1) hC dL_beats_834 rfl ?_
  refine r_goto 839 hC dL_beats_835 (by decide) ?_
  exact w_L_beats_b839 hC hz hZ h43 hzz v1 v2 v3 v4 v5 v9 v10 v11 v12 v13 v14 v15 v16 v17 v18 v19 k31 k527 hk31 hk527 (by omega) (by omega) 1 s0 _ (by omega) (by omega) hf
set_option maxRecDepth 20000 in
set_option maxHeartbeats 1000000 in
theorem w_L_beats_b838 {X : XX} {G : GG} {Z : ZZ} {r : Int32} {M' : Mem} {Zq : ZZ} {B31 : Nat} {B527 : Nat} {k n : Nat} (hC : Cx X G RL cL_beats (some .boolean) 10 4040 24240 23) (hz : ZOk G Z) (hZ : ZM Z) (h43 : At Z 43 (dA 0 4)) (hzz : Sub G Z Zq) (v1 : Int32) (v2 : Int32) (v3 : Int32) (v4 : Int32) (v5 : Int32) (v9 : Int32) (v10 : Int32) (v11 : Int32) (v12 : Int32) (v13 : Int32) (v14 : Int32) (v15 : Int32) (v16 : Int32) (v17 : Int32) (v18 : Int32) (v19 : Int32) (k31 : Int32 → Int32 → Int32 → Int32 → Int32 → Int32 → Int32 → Mem → Option (Int32 × Mem)) (k527 : Int32 → Int32 → Int32 → Int32 → Int32 → Mem → Option (Int32 × Mem)) (hk31 : ∀ (k n : Nat) (u2 : Int32) (u3 : Int32) (u4 : Int32) (u5 : Int32) (u6 : Int32) (u8 : Int32) (u9 : Int32) (M : Mem), k ≤ B31 → n ≤ 6 * k → k31 u2 u3 u4 u5 u6 u8 u9 M = some (r, M') → V X G Z M k n (QN X G (QcI G Zq r M') 4040 24240) 31 [(0, .ref (Z.1 0)), (1, .int v1), (2, .int u2), (3, .int u3), (4, .int u4), (5, .int u5), (6, .int u6), (7, .ref (Z.1 43)), (8, .int u8), (9, .int u9)] []) (hk527 : ∀ (k n : Nat) (u3 : Int32) (u6 : Int32) (u8 : Int32) (u12 : Int32) (u13 : Int32) (M : Mem), k ≤ B527 → n ≤ 6 * k → k527 u3 u6 u8 u12 u13 M = some (r, M') → V X G Z M k n (QN X G (QcI G Zq r M') 4040 24240) 527 [(0, .ref (Z.1 0)), (1, .int v1), (2, .int v2), (3, .int u3), (4, .int v4), (5, .int v5), (6, .int u6), (7, .ref (Z.1 43)), (8, .int u8), (9, .int v9), (10, .int v10), (11, .int v11), (12, .int u12), (13, .int u13)] []) (hB31 : B31 ≤ 4040) (hB527 : B527 ≤ 4040) (s0 : Int32) (M : Mem) (hb527 : k + 6 ≤ B527) (hn : n ≤ 6 * k) (hf : f_L_beats_b838 v1 v2 v3 v4 v5 v9 v10 v11 v12 v13 v14 v15 v16 v17 v18 v19 k31 k527 s0 M = some (r, M')) : V X G Z M k n (QN X G (QcI G Zq r M') 4040 24240) 838 [(0, .ref (Z.1 0)), (1, .int v1), (2, .int v2), (3, .int v3), (4, .int v4), (5, .int v5), (7, .ref (Z.1 43)), (9, .int v9), (10, .int v10), (11, .int v11), (12, .int v12), (13, .int v13), (14, .int v14), (15, .int v15), (16, .int v16), (17, .int v17), (18, .int v18), (19, .int v19)] [.int s0] := by
  unfold f_L_beats_b838 at hf
  refine r_iconst (v := 0) hC dL_beats_838 rfl ?_
  exact w_L_beats_b839 hC hz hZ h43 hzz v1 v2 v3 v4 v5 v9 v10 v11 v12 v13 v14 v15 v16 v17 v18 v19 k31 k527 hk31 hk527 (by omega) (by omega) 0 s0 _ (by omega) (by omega) hf
set_option maxRecDepth 20000 in
set_option maxHeartbeats 1000000 in
theorem w_L_beats_b808 {X : XX} {G : GG} {Z : ZZ} {r : Int32} {M' : Mem} {Zq : ZZ} {B31 : Nat} {B527 : Nat} {k n : Nat} (hC : Cx X G RL cL_beats (some .boolean) 10 4040 24240 23) (hz : ZOk G Z) (hZ : ZM Z) (h43 : At Z 43 (dA 0 4)) (hzz : Sub G Z Zq) (v1 : Int32) (v2 : Int32) (v3 : Int32) (v4 : Int32) (v5 : Int32) (v6 : Int32) (v9 : Int32) (v10 : Int32) (v11 : Int32) (v12 : Int32) (v13 : Int32) (v14 : Int32) (v15 : Int32) (v16 : Int32) (v17 : Int32) (v18 : Int32) (v19 : Int32) (k31 : Int32 → Int32 → Int32 → Int32 → Int32 → Int32 → Int32 → Mem → Option (Int32 × Mem)) (k527 : Int32 → Int32 → Int32 → Int32 → Int32 → Mem → Option (Int32 × Mem)) (hk31 : ∀ (k n : Nat) (u2 : Int32) (u3 : Int32) (u4 : Int32) (u5 : Int32) (u6 : Int32) (u8 : Int32) (u9 : Int32) (M : Mem), k ≤ B31 → n ≤ 6 * k → k31 u2 u3 u4 u5 u6 u8 u9 M = some (r, M') → V X G Z M k n (QN X G (QcI G Zq r M') 4040 24240) 31 [(0, .ref (Z.1 0)), (1, .int v1), (2, .int u2), (3, .int u3), (4, .int u4), (5, .int u5), (6, .int u6), (7, .ref (Z.1 43)), (8, .int u8), (9, .int u9)] []) (hk527 : ∀ (k n : Nat) (u3 : Int32) (u6 : Int32) (u8 : Int32) (u12 : Int32) (u13 : Int32) (M : Mem), k ≤ B527 → n ≤ 6 * k → k527 u3 u6 u8 u12 u13 M = some (r, M') → V X G Z M k n (QN X G (QcI G Zq r M') 4040 24240) 527 [(0, .ref (Z.1 0)), (1, .int v1), (2, .int v2), (3, .int u3), (4, .int v4), (5, .int v5), (6, .int u6), (7, .ref (Z.1 43)), (8, .int u8), (9, .int v9), (10, .int v10), (11, .int v11), (12, .int u12), (13, .int u13)] []) (hB31 : B31 ≤ 4040) (hB527 : B527 ≤ 4040)  (M : Mem) (hb527 : k + 6 ≤ B527) (hn : n ≤ 6 * k) (hf : f_L_beats_b808 v1 v2 v3 v4 v5 v6 v9 v10 v11 v12 v13 v14 v15 v16 v17 v18 v19 k31 k527 M = some (r, M')) : V X G Z M k n (QN X G (QcI G Zq r M') 4040 24240) 808 [(0, .ref (Z.1 0)), (1, .int v1), (2, .int v2), (3, .int v3), (4, .int v4), (5, .int v5), (6, .int v6), (7, .ref (Z.1 43)), (9, .int v9), (10, .int v10), (11, .int v11), (12, .int v12), (13, .int v13), (14, .int v14), (15, .int v15), (16, .int v16), (17, .int v17), (18, .int v18), (19, .int v19)] [] := by
  unfold f_L_beats_b808 at hf
  refine r_aload hC dL_beats_808 7 rfl ?_
  refine r_iload hC dL_beats_810 14 rfl ?_
  refine r_dup2 hC dL_beats_812 rfl rfl ?_
  have hin := if_K hf
  have hf := if_V hf
  refine r_iald hC h43 (inb_vp hin) dL_beats_813 ?_
  refine r_iconst (v := 1) hC dL_beats_814 rfl ?_
  refine r_iadd hC dL_beats_815 ?_
  have hin := if_K hf
  have hf := if_V hf
  refine r_iast hC hz h43 (inb_vp hin) dL_beats_816 ?_
  refine r_iload hC dL_beats_817 6 rfl ?_
  refine r_iload hC dL_beats_819 14 rfl ?_
  refine r_if_ne 838 hC dL_beats_821 (by decide) (fun h => ?_) (fun h => ?_)
  · have hf := if_F hf h
    refine r_L [0, 1, 2, 3, 4, 5, 7, 8, 9, 10, 11, 12, 13, 14, 15, 16, 17, 18] rfl ?_
    exact w_L_beats_b838 hC hz hZ h43 hzz v1 v2 v3 v4 v5 v9 v10 v11 v12 v13 v14 v15 v16 v17 v18 v19 k31 k527 hk31 hk527 (by omega) (by omega) v6 _ (by omega) (by omega) hf
  · have hf := if_T hf h
    refine r_iload hC dL_beats_824 16 rfl ?_
    refine r_if_ne 834 hC dL_beats_826 (by decide) (fun h => ?_) (fun h => ?_)
    · have hf := if_F hf h
      refine r_L [0, 1, 2, 3, 4, 5, 7, 8, 9, 10, 11, 12, 13, 14, 15, 16, 17, 18] rfl ?_
      exact w_L_beats_b834 hC hz hZ h43 hzz v1 v2 v3 v4 v5 v9 v10 v11 v12 v13 v14 v15 v16 v17 v18 v19 k31 k527 hk31 hk527 (by omega) (by omega) v6 _ (by omega) (by omega) hf
    · have hf := if_T hf h
      refine r_iload hC dL_beats_829 15 rfl ?_
      refine r_if_ne 838 hC dL_beats_831 (by decide) (fun h => ?_) (fun h => ?_)
      · have hf := if_F hf h
        refine r_L [0, 1, 2, 3, 4, 5, 7, 8, 9, 10, 11, 12, 13, 14, 15, 16, 17, 18] rfl ?_
        exact w_L_beats_b838 hC hz hZ h43 hzz v1 v2 v3 v4 v5 v9 v10 v11 v12 v13 v14 v15 v16 v17 v18 v19 k31 k527 hk31 hk527 (by omega) (by omega) v6 _ (by omega) (by omega) hf
      · have hf := if_T hf h
        refine r_L [0, 1, 2, 3, 4, 5, 7, 8, 9, 10, 11, 12, 13, 14, 15, 16, 17, 18] rfl ?_
        exact w_L_beats_b834 hC hz hZ h43 hzz v1 v2 v3 v4 v5 v9 v10 v11 v12 v13 v14 v15 v16 v17 v18 v19 k31 k527 hk31 hk527 (by omega) (by omega) v6 _ (by omega) (by omega) hf
set_option maxRecDepth 20000 in
set_option maxHeartbeats 1000000 in
theorem w_L_beats_b676 {X : XX} {G : GG} {Z : ZZ} {r : Int32} {M' : Mem} {Zq : ZZ} {B31 : Nat} {B527 : Nat} {B676 : Nat} {k n : Nat} (hC : Cx X G RL cL_beats (some .boolean) 10 4040 24240 23) (hz : ZOk G Z) (hZ : ZM Z) (h43 : At Z 43 (dA 0 4)) (hzz : Sub G Z Zq) (v1 : Int32) (v2 : Int32) (v3 : Int32) (v4 : Int32) (v5 : Int32) (v6 : Int32) (v9 : Int32) (v10 : Int32) (v11 : Int32) (v12 : Int32) (v13 : Int32) (v14 : Int32) (v15 : Int32) (v16 : Int32) (v17 : Int32) (k31 : Int32 → Int32 → Int32 → Int32 → Int32 → Int32 → Int32 → Mem → Option (Int32 × Mem)) (k527 : Int32 → Int32 → Int32 → Int32 → Int32 → Mem → Option (Int32 × Mem)) (hk31 : ∀ (k n : Nat) (u2 : Int32) (u3 : Int32) (u4 : Int32) (u5 : Int32) (u6 : Int32) (u8 : Int32) (u9 : Int32) (M : Mem), k ≤ B31 → n ≤ 6 * k → k31 u2 u3 u4 u5 u6 u8 u9 M = some (r, M') → V X G Z M k n (QN X G (QcI G Zq r M') 4040 24240) 31 [(0, .ref (Z.1 0)), (1, .int v1), (2, .int u2), (3, .int u3), (4, .int u4), (5, .int u5), (6, .int u6), (7, .ref (Z.1 43)), (8, .int u8), (9, .int u9)] []) (hk527 : ∀ (k n : Nat) (u3 : Int32) (u6 : Int32) (u8 : Int32) (u12 : Int32) (u13 : Int32) (M : Mem), k ≤ B527 → n ≤ 6 * k → k527 u3 u6 u8 u12 u13 M = some (r, M') → V X G Z M k n (QN X G (QcI G Zq r M') 4040 24240) 527 [(0, .ref (Z.1 0)), (1, .int v1), (2, .int v2), (3, .int u3), (4, .int v4), (5, .int v5), (6, .int u6), (7, .ref (Z.1 43)), (8, .int u8), (9, .int v9), (10, .int v10), (11, .int v11), (12, .int u12), (13, .int u13)] []) (hB31 : B31 ≤ 4040) (hB527 : B527 ≤ 4040) (k676 : Int32 → Int32 → Int32 → Mem → Option (Int32 × Mem)) (hk676 : ∀ (k n : Nat) (u18 : Int32) (u19 : Int32) (u20 : Int32) (M : Mem), k ≤ B676 → n ≤ 6 * k → k676 u18 u19 u20 M = some (r, M') → V X G Z M k n (QN X G (QcI G Zq r M') 4040 24240) 676 [(0, .ref (Z.1 0)), (1, .int v1), (2, .int v2), (3, .int v3), (4, .int v4), (5, .int v5), (6, .int v6), (7, .ref (Z.1 43)), (9, .int v9), (10, .int v10), (11, .int v11), (12, .int v12), (13, .int v13), (14, .int v14), (15, .int v15), (16, .int v16), (17, .int v17), (18, .int u18), (19, .int u19), (20, .int u20)] []) (hB676 : B676 ≤ 4040) (v18 : Int32) (v19 : Int32) (v20 : Int32) (M : Mem) (hb527 : k + 6 ≤ B527) (hn : n ≤ 6 * k) (hb676 : k + 4 ≤ B676) (hf : f_L_beats_b676 v1 v2 v3 v4 v5 v6 v9 v10 v11 v12 v13 v14 v15 v16 v17 k31 k527 k676 v18 v19 v20 M = some (r, M')) : V X G Z M k n (QN X G (QcI G Zq r M') 4040 24240) 676 [(0, .ref (Z.1 0)), (1, .int v1), (2, .int v2), (3, .int v3), (4, .int v4), (5, .int v5), (6, .int v6), (7, .ref (Z.1 43)), (9, .int v9), (10, .int v10), (11, .int v11), (12, .int v12), (13, .int v13), (14, .int v14), (15, .int v15), (16, .int v16), (17, .int v17), (18, .int v18), (19, .int v19), (20, .int v20)] [] := by
  unfold f_L_beats_b676 at hf
  refine r_iload hC dL_beats_676 19 rfl ?_
  refine r_iload_n hC dL_beats_678 1 rfl ?_
  refine r_icmp_ge 808 hC dL_beats_679 (by decide) (fun h => ?_) (fun h => ?_)
  · have hf := if_T hf h
    refine r_L [0, 1, 2, 3, 4, 5, 6, 7, 8, 9, 10, 11, 12, 13, 14, 15, 16, 17, 18] rfl ?_
    exact w_L_beats_b808 hC hz hZ h43 hzz v1 v2 v3 v4 v5 v6 v9 v10 v11 v12 v13 v14 v15 v16 v17 v18 v19 k31 k527 hk31 hk527 (by omega) (by omega)  _ (by omega) (by omega) hf
  · have hf := if_F hf h
    refine r_aload_n hC dL_beats_682 0 rfl ?_
    refine r_iload hC dL_beats_683 19 rfl ?_
    refine r_iload hC dL_beats_685 8 rfl ?_
    refine r_iconst (v := 1) hC dL_beats_687 rfl ?_
    refine r_wcall [] (fun r M1 h => c_L_tryCell (cx_st hC) hz hZ v20 v9 1 _ r M1 h) hf cs_L_127 hC rfl rfl (by decide) (by decide) (Nat.le_of_ble_eq_true rfl) (by omega) (by omega) dL_beats_688 (fun x65 M66 hf => ?_)
    refine r_iload hC dL_beats_691 13 rfl ?_
    refine r_isub hC dL_beats_693 ?_
    refine r_istore (L' := [(21, .int (x65 - v14)), (0, .ref (Z.1 0)), (1, .int v1), (2, .int v2), (3, .int v3), (4, .int v4), (5, .int v5), (6, .int v6), (7, .ref (Z.1 43)), (9, .int v9), (10, .int v10), (11, .int v11), (12, .int v12), (13, .int v13), (14, .int v14), (15, .int v15), (16, .int v16), (17, .int v17), (18, .int v18), (19, .int v19), (20, .int v20)]) hC dL_beats_694 (by decide) rfl ?_
    refine r_iload hC dL_beats_696 20 rfl ?_
    refine r_iload hC dL_beats_698 13 rfl ?_
    refine r_icmp_eq 747 hC dL_beats_700 (by decide) (fun h => ?_) (fun h => ?_)
    · have hf := if_T hf h
      refine r_L [1, 2, 3, 4, 5, 6, 7, 8, 9, 10, 11, 12, 13, 14, 15, 16, 17, 18, 19, 20, 0] rfl ?_
      exact w_L_beats_b747 hC hz hZ h43 hzz v1 v2 v3 v4 v5 v6 v9 v10 v11 v12 v13 v14 v15 v16 v17 v18 v19 v20 (x65 - v14) k31 k527 k676 hk31 hk527 hk676 (by omega) (by omega) (by omega)  _ (by omega) (by omega) hf
    · have hf := if_F hf h
      refine r_aload_n hC dL_beats_703 1 rfl ?_
      refine r_iload hC dL_beats_704 20 rfl ?_
      refine r_iload hC dL_beats_706 9 rfl ?_
      refine r_iconst (v := 1) hC dL_beats_708 rfl ?_
      refine r_wcall [] (fun r M1 h => c_L_tryCell (cx_st hC) hz hZ v20 v9 1 _ r M1 h) hf cs_L_127 hC rfl rfl (by decide) (by decide) (Nat.le_of_ble_eq_true rfl) (by omega) (by omega) dL_beats_709 (fun x67 M68 hf => ?_)
      refine r_bipush (v := (-9)) hC dL_beats_712 rfl ?_
      refine r_icmp_eq 747 hC dL_beats_714 (by decide) (fun h => ?_) (fun h => ?_)
      · have hf := if_T hf h
        refine r_L [1, 2, 3, 4, 5, 6, 7, 8, 9, 10, 11, 12, 13, 14, 15, 16, 17, 18, 19, 20, 0] rfl ?_
        exact w_L_beats_b747 hC hz hZ h43 hzz v1 v2 v3 v4 v5 v6 v9 v10 v11 v12 v13 v14 v15 v16 v17 v18 v19 v20 (x65 - v14) k31 k527 k676 hk31 hk527 hk676 (by omega) (by omega) (by omega)  _ (by omega) (by omega) hf
      · have hf := if_F hf h
        refine r_aload_n hC dL_beats_717 1 rfl ?_
        refine r_iload hC dL_beats_718 20 rfl ?_
        refine r_iload hC dL_beats_720 9 rfl ?_
        refine r_iconst (v := 1) hC dL_beats_722 rfl ?_
        refine r_wcall [] (fun r M1 h => c_L_tryNote (cx_st hC) hz hZ v20 v9 1 _ r M1 h) hf cs_L_155 hC rfl rfl (by decide) (by decide) (Nat.le_of_ble_eq_true rfl) (by omega) (by omega) dL_beats_723 (fun x69 M70 hf => ?_)
        refine r_iconst (v := 1) hC dL_beats_726 rfl ?_
        refine r_icmp_eq 747 hC dL_beats_727 (by decide) (fun h => ?_) (fun h => ?_)
        · have hf := if_T hf h
          refine r_L [1, 2, 3, 4, 5, 6, 7, 8, 9, 10, 11, 12, 13, 14, 15, 16, 17, 18, 19, 20, 0] rfl ?_
          exact w_L_beats_b747 hC hz hZ h43 hzz v1 v2 v3 v4 v5 v6 v9 v10 v11 v12 v13 v14 v15 v16 v17 v18 v19 v20 (x65 - v14) k31 k527 k676 hk31 hk527 hk676 (by omega) (by omega) (by omega)  _ (by omega) (by omega) hf
        · have hf := if_F hf h
          refine r_aload_n hC dL_beats_730 1 rfl ?_
          refine r_iload hC dL_beats_731 20 rfl ?_
          refine r_iload hC dL_beats_733 9 rfl ?_
          refine r_iconst (v := 1) hC dL_beats_735 rfl ?_
          refine r_wcall [] (fun r M1 h => c_L_tryNote (cx_st hC) hz hZ v20 v9 1 _ r M1 h) hf cs_L_155 hC rfl rfl (by decide) (by decide) (Nat.le_of_ble_eq_true rfl) (by omega) (by omega) dL_beats_736 (fun x71 M72 hf => ?_)
          refine r_iconst (v := 2) hC dL_beats_739 rfl ?_
          refine r_icmp_eq 747 hC dL_beats_740 (by decide) (fun h => ?_) (fun h => ?_)
          · have hf := if_T hf h
            refine r_L [1, 2, 3, 4, 5, 6, 7, 8, 9, 10, 11, 12, 13, 14, 15, 16, 17, 18, 19, 20, 0] rfl ?_
            exact w_L_beats_b747 hC hz hZ h43 hzz v1 v2 v3 v4 v5 v6 v9 v10 v11 v12 v13 v14 v15 v16 v17 v18 v19 v20 (x65 - v14) k31 k527 k676 hk31 hk527 hk676 (by omega) (by omega) (by omega)  _ (by omega) (by omega) hf
          · have hf := if_F hf h
            refine r_iconst (v := 1) hC dL_beats_743 rfl ?_
            refine r_goto 748 hC dL_beats_744 (by decide) ?_
            refine r_L [1, 2, 3, 4, 5, 6, 7, 8, 9, 10, 11, 12, 13, 14, 15, 16, 17, 18, 19, 20, 0] rfl ?_
            exact w_L_beats_b748 hC hz hZ h43 hzz v1 v2 v3 v4 v5 v6 v9 v10 v11 v12 v13 v14 v15 v16 v17 v18 v19 v20 (x65 - v14) k31 k527 k676 hk31 hk527 hk676 (by omega) (by omega) (by omega) 1 _ (by omega) (by omega) hf
set_option maxRecDepth 20000 in
set_option maxHeartbeats 1000000 in
theorem w_L_beats_b599 {X : XX} {G : GG} {Z : ZZ} {r : Int32} {M' : Mem} {Zq : ZZ} {B31 : Nat} {B527 : Nat} {k n : Nat} (hC : Cx X G RL cL_beats (some .boolean) 10 4040 24240 23) (hz : ZOk G Z) (hZ : ZM Z) (h43 : At Z 43 (dA 0 4)) (hzz : Sub G Z Zq) (v1 : Int32) (v2 : Int32) (v3 : Int32) (v4 : Int32) (v5 : Int32) (v6 : Int32) (v9 : Int32) (v10 : Int32) (v11 : Int32) (v12 : Int32) (v13 : Int32) (v14 : Int32) (v15 : Int32) (v16 : Int32) (k31 : Int32 → Int32 → Int32 → Int32 → Int32 → Int32 → Int32 → Mem → Option (Int32 × Mem)) (k527 : Int32 → Int32 → Int32 → Int32 → Int32 → Mem → Option (Int32 × Mem)) (hk31 : ∀ (k n : Nat) (u2 : Int32) (u3 : Int32) (u4 : Int32) (u5 : Int32) (u6 : Int32) (u8 : Int32) (u9 : Int32) (M : Mem), k ≤ B31 → n ≤ 6 * k → k31 u2 u3 u4 u5 u6 u8 u9 M = some (r, M') → V X G Z M k n (QN X G (QcI G Zq r M') 4040 24240) 31 [(0, .ref (Z.1 0)), (1, .int v1), (2, .int u2), (3, .int u3), (4, .int u4), (5, .int u5), (6, .int u6), (7, .ref (Z.1 43)), (8, .int u8), (9, .int u9)] []) (hk527 : ∀ (k n : Nat) (u3 : Int32) (u6 : Int32) (u8 : Int32) (u12 : Int32) (u13 : Int32) (M : Mem), k ≤ B527 → n ≤ 6 * k → k527 u3 u6 u8 u12 u13 M = some (r, M') → V X G Z M k n (QN X G (QcI G Zq r M') 4040 24240) 527 [(0, .ref (Z.1 0)), (1, .int v1), (2, .int v2), (3, .int u3), (4, .int v4), (5, .int v5), (6, .int u6), (7, .ref (Z.1 43)), (8, .int u8), (9, .int v9), (10, .int v10), (11, .int v11), (12, .int u12), (13, .int u13)] []) (hB31 : B31 ≤ 4040) (hB527 : B527 ≤ 4040) (s0 : Int32) (M : Mem) (hb527 : k + 26 ≤ B527) (hn : n ≤ 6 * k) (hf : f_L_beats_b599 v1 v2 v3 v4 v5 v6 v9 v10 v11 v12 v13 v14 v15 v16 k31 k527 s0 M = some (r, M')) : V X G Z M k n (QN X G (QcI G Zq r M') 4040 24240) 599 [(0, .ref (Z.1 0)), (1, .int v1), (2, .int v2), (3, .int v3), (4, .int v4), (5, .int v5), (6, .int v6), (7, .ref (Z.1 43)), (9, .int v9), (10, .int v10), (11, .int v11), (12, .int v12), (13, .int v13), (14, .int v14), (15, .int v15), (16, .int v16)] [.int s0] := by
  unfold f_L_beats_b599 at hf
  refine r_istore (L' := [(17, .int s0), (0, .ref (Z.1 0)), (1, .int v1), (2, .int v2), (3, .int v3), (4, .int v4), (5, .int v5), (6, .int v6), (7, .ref (Z.1 43)), (9, .int v9), (10, .int v10), (11, .int v11), (12, .int v12), (13, .int v13), (14, .int v14), (15, .int v15), (16, .int v16)]) hC dL_beats_599 (by decide) rfl ?_
  refine r_iload hC dL_beats_601 14 rfl ?_
  refine r_bipush (v := (-9)) hC dL_beats_603 rfl ?_
  refine r_icmp_ne 667 hC dL_beats_605 (by decide) (fun h => ?_) (fun h => ?_)
  · have hf := if_F hf h
    refine r_iconst (v := 0) hC dL_beats_667 rfl ?_
    refine r_istore (L' := [(18, .int 0), (17, .int s0), (0, .ref (Z.1 0)), (1, .int v1), (2, .int v2), (3, .int v3), (4, .int v4), (5, .int v5), (6, .int v6), (7, .ref (Z.1 43)), (9, .int v9), (10, .int v10), (11, .int v11), (12, .int v12), (13, .int v13), (14, .int v14), (15, .int v15), (16, .int v16)]) hC dL_beats_668 (by decide) rfl ?_
    refine r_iconst (v := 0) hC dL_beats_670 rfl ?_
    refine r_istore (L' := [(19, .int 0), (18, .int 0), (17, .int s0), (0, .ref (Z.1 0)), (1, .int v1), (2, .int v2), (3, .int v3), (4, .int v4), (5, .int v5), (6, .int v6), (7, .ref (Z.1 43)), (9, .int v9), (10, .int v10), (11, .int v11), (12, .int v12), (13, .int v13), (14, .int v14), (15, .int v15), (16, .int v16)]) hC dL_beats_671 (by decide) rfl ?_
    refine r_iconst (v := 0) hC dL_beats_673 rfl ?_
    refine r_istore (L' := [(20, .int 0), (19, .int 0), (18, .int 0), (17, .int s0), (0, .ref (Z.1 0)), (1, .int v1), (2, .int v2), (3, .int v3), (4, .int v4), (5, .int v5), (6, .int v6), (7, .ref (Z.1 43)), (9, .int v9), (10, .int v10), (11, .int v11), (12, .int v12), (13, .int v13), (14, .int v14), (15, .int v15), (16, .int v16)]) hC dL_beats_674 (by decide) rfl ?_
    refine r_L [4, 5, 6, 7, 8, 9, 10, 11, 12, 13, 14, 15, 16, 17, 18, 19, 3, 2, 1, 0] rfl ?_
    exact lq3_idf (P := fun j (u18 : Int32) (u19 : Int32) (u20 : Int32) (M : Mem) => ∀ k n : Nat, n ≤ 6 * k → k + 4 * j ≤ 4040 → k + (4 * j + 6) ≤ B527 → V X G Z M k n (QN X G (QcI G Zq r M') 4040 24240) 676 [(0, .ref (Z.1 0)), (1, .int v1), (2, .int v2), (3, .int v3), (4, .int v4), (5, .int v5), (6, .int v6), (7, .ref (Z.1 43)), (9, .int v9), (10, .int v10), (11, .int v11), (12, .int v12), (13, .int v13), (14, .int v14), (15, .int v15), (16, .int v16), (17, .int s0), (18, .int u18), (19, .int u19), (20, .int u20)] []) (fun j kk hkk u18 u19 u20 M hf k n hn hq0 hq1 => w_L_beats_b676 hC hz hZ h43 hzz v1 v2 v3 v4 v5 v6 v9 v10 v11 v12 v13 v14 v15 v16 s0 k31 k527 hk31 hk527 (by omega) (by omega) kk (fun k' n' u18 u19 u20 M hB hn' hf' => hkk u18 u19 u20 M hf' k' n' (by omega) (by omega) (by omega)) (k := k) (n := n) (B676 := k + 4) (by omega) u18 u19 u20 M (by omega) (by omega) (by omega) hf) 5 _ _ _ _ hf _ _ (by omega) (by omega) (by omega)
  · have hf := if_T hf h
    refine r_iload hC dL_beats_608 15 rfl ?_
    refine r_bipush (v := (-9)) hC dL_beats_610 rfl ?_
    refine r_icmp_ne 661 hC dL_beats_612 (by decide) (fun h => ?_) (fun h => ?_)
    · have hf := if_F hf h
      refine r_L [1, 2, 3, 4, 5, 6, 7, 8, 9, 10, 11, 12, 13] rfl ?_
      exact w_L_beats_b661 hC hz hZ h43 hzz v1 v2 v3 v4 v5 v6 v9 v10 v11 v12 v13 k31 k527 hk31 hk527 (by omega) (by omega)  _ (by omega) (by omega) hf
    · have hf := if_T hf h
      refine r_aload_n hC dL_beats_615 1 rfl ?_
      refine r_iload hC dL_beats_616 13 rfl ?_
      refine r_iload hC dL_beats_618 9 rfl ?_
      refine r_iconst (v := 0) hC dL_beats_620 rfl ?_
      refine r_wcall [] (fun r M1 h => c_L_tryNote (cx_st hC) hz hZ v13 v9 0 _ r M1 h) hf cs_L_155 hC rfl rfl (by decide) (by decide) (Nat.le_of_ble_eq_true rfl) (by omega) (by omega) dL_beats_621 (fun x49 M50 hf => ?_)
      refine r_bipush (v := (-9)) hC dL_beats_624 rfl ?_
      refine r_icmp_ne 661 hC dL_beats_626 (by decide) (fun h => ?_) (fun h => ?_)
      · have hf := if_F hf h
        refine r_L [1, 2, 3, 4, 5, 6, 7, 8, 9, 10, 11, 12, 13] rfl ?_
        exact w_L_beats_b661 hC hz hZ h43 hzz v1 v2 v3 v4 v5 v6 v9 v10 v11 v12 v13 k31 k527 hk31 hk527 (by omega) (by omega)  _ (by omega) (by omega) hf
      · have hf := if_T hf h
        refine r_aload_n hC dL_beats_629 1 rfl ?_
        refine r_iload hC dL_beats_630 13 rfl ?_
        refine r_iload hC dL_beats_632 9 rfl ?_
        refine r_iconst (v := 2) hC dL_beats_634 rfl ?_
        refine r_wcall [] (fun r M1 h => c_L_tryNote (cx_st hC) hz hZ v13 v9 2 _ r M1 h) hf cs_L_155 hC rfl rfl (by decide) (by decide) (Nat.le_of_ble_eq_true rfl) (by omega) (by omega) dL_beats_635 (fun x51 M52 hf => ?_)
        refine r_bipush (v := (-9)) hC dL_beats_638 rfl ?_
        refine r_icmp_ne 661 hC dL_beats_640 (by decide) (fun h => ?_) (fun h => ?_)
        · have hf := if_F hf h
          refine r_L [1, 2, 3, 4, 5, 6, 7, 8, 9, 10, 11, 12, 13] rfl ?_
          exact w_L_beats_b661 hC hz hZ h43 hzz v1 v2 v3 v4 v5 v6 v9 v10 v11 v12 v13 k31 k527 hk31 hk527 (by omega) (by omega)  _ (by omega) (by omega) hf
        · have hf := if_T hf h
          refine r_aload_n hC dL_beats_643 1 rfl ?_
          refine r_iload hC dL_beats_644 13 rfl ?_
          refine r_iload hC dL_beats_646 9 rfl ?_
          refine r_iconst (v := 0) hC dL_beats_648 rfl ?_
          refine r_wcall [] (fun r M1 h => c_L_tryCell (cx_st hC) hz hZ v13 v9 0 _ r M1 h) hf cs_L_127 hC rfl rfl (by decide) (by decide) (Nat.le_of_ble_eq_true rfl) (by omega) (by omega) dL_beats_649 (fun x53 M54 hf => ?_)
          refine r_bipush (v := (-9)) hC dL_beats_652 rfl ?_
          refine r_icmp_ne 661 hC dL_beats_654 (by decide) (fun h => ?_) (fun h => ?_)
          · have hf := if_F hf h
            refine r_L [1, 2, 3, 4, 5, 6, 7, 8, 9, 10, 11, 12, 13] rfl ?_
            exact w_L_beats_b661 hC hz hZ h43 hzz v1 v2 v3 v4 v5 v6 v9 v10 v11 v12 v13 k31 k527 hk31 hk527 (by omega) (by omega)  _ (by omega) (by omega) hf
          · have hf := if_T hf h
            refine r_iconst (v := 1) hC dL_beats_657 rfl ?_
            refine r_goto 662 hC dL_beats_658 (by decide) ?_
            refine r_L [1, 2, 3, 4, 5, 6, 7, 8, 9, 10, 11, 12, 13] rfl ?_
            exact w_L_beats_b662 hC hz hZ h43 hzz v1 v2 v3 v4 v5 v6 v9 v10 v11 v12 v13 k31 k527 hk31 hk527 (by omega) (by omega) 1 _ (by omega) (by omega) hf
set_option maxRecDepth 20000 in
set_option maxHeartbeats 1000000 in
theorem w_L_beats_b579 {X : XX} {G : GG} {Z : ZZ} {r : Int32} {M' : Mem} {Zq : ZZ} {B31 : Nat} {B527 : Nat} {k n : Nat} (hC : Cx X G RL cL_beats (some .boolean) 10 4040 24240 23) (hz : ZOk G Z) (hZ : ZM Z) (h43 : At Z 43 (dA 0 4)) (hzz : Sub G Z Zq) (v1 : Int32) (v2 : Int32) (v3 : Int32) (v4 : Int32) (v5 : Int32) (v6 : Int32) (v9 : Int32) (v10 : Int32) (v11 : Int32) (v12 : Int32) (v13 : Int32) (v14 : Int32) (v15 : Int32) (k31 : Int32 → Int32 → Int32 → Int32 → Int32 → Int32 → Int32 → Mem → Option (Int32 × Mem)) (k527 : Int32 → Int32 → Int32 → Int32 → Int32 → Mem → Option (Int32 × Mem)) (hk31 : ∀ (k n : Nat) (u2 : Int32) (u3 : Int32) (u4 : Int32) (u5 : Int32) (u6 : Int32) (u8 : Int32) (u9 : Int32) (M : Mem), k ≤ B31 → n ≤ 6 * k → k31 u2 u3 u4 u5 u6 u8 u9 M = some (r, M') → V X G Z M k n (QN X G (QcI G Zq r M') 4040 24240) 31 [(0, .ref (Z.1 0)), (1, .int v1), (2, .int u2), (3, .int u3), (4, .int u4), (5, .int u5), (6, .int u6), (7, .ref (Z.1 43)), (8, .int u8), (9, .int u9)] []) (hk527 : ∀ (k n : Nat) (u3 : Int32) (u6 : Int32) (u8 : Int32) (u12 : Int32) (u13 : Int32) (M : Mem), k ≤ B527 → n ≤ 6 * k → k527 u3 u6 u8 u12 u13 M = some (r, M') → V X G Z M k n (QN X G (QcI G Zq r M') 4040 24240) 527 [(0, .ref (Z.1 0)), (1, .int v1), (2, .int v2), (3, .int u3), (4, .int v4), (5, .int v5), (6, .int u6), (7, .ref (Z.1 43)), (8, .int u8), (9, .int v9), (10, .int v10), (11, .int v11), (12, .int u12), (13, .int u13)] []) (hB31 : B31 ≤ 4040) (hB527 : B527 ≤ 4040) (s0 : Int32) (M : Mem) (hb527 : k + 27 ≤ B527) (hn : n ≤ 6 * k) (hf : f_L_beats_b579 v1 v2 v3 v4 v5 v6 v9 v10 v11 v12 v13 v14 v15 k31 k527 s0 M = some (r, M')) : V X G Z M k n (QN X G (QcI G Zq r M') 4040 24240) 579 [(0, .ref (Z.1 0)), (1, .int v1), (2, .int v2), (3, .int v3), (4, .int v4), (5, .int v5), (6, .int v6), (7, .ref (Z.1 43)), (9, .int v9), (10, .int v10), (11, .int v11), (12, .int v12), (13, .int v13), (14, .int v14), (15, .int v15)] [.int s0] := by
  unfold f_L_beats_b579 at hf
  refine r_istore (L' := [(16, .int s0), (0, .ref (Z.1 0)), (1, .int v1), (2, .int v2), (3, .int v3), (4, .int v4), (5, .int v5), (6, .int v6), (7, .ref (Z.1 43)), (9, .int v9), (10, .int v10), (11, .int v11), (12, .int v12), (13, .int v13), (14, .int v14), (15, .int v15)]) hC dL_beats_579 (by decide) rfl ?_
  refine r_aload_n hC dL_beats_581 1 rfl ?_
  refine r_iload hC dL_beats_582 13 rfl ?_
  refine r_iload hC dL_beats_584 9 rfl ?_
  refine r_iconst (v := 3) hC dL_beats_586 rfl ?_
  refine r_wcall [] (fun r M1 h => c_L_tryNote (cx_st hC) hz hZ v13 v9 3 _ r M1 h) hf cs_L_155 hC rfl rfl (by decide) (by decide) (Nat.le_of_ble_eq_true rfl) (by omega) (by omega) dL_beats_587 (fun x47 M48 hf => ?_)
  refine r_iconst (v := 1) hC dL_beats_590 rfl ?_
  refine r_icmp_ne 598 hC dL_beats_591 (by decide) (fun h => ?_) (fun h => ?_)
  · have hf := if_F hf h
    refine r_iconst (v := 0) hC dL_beats_598 rfl ?_
    refine r_L [1, 2, 3, 4, 5, 6, 7, 8, 9, 10, 11, 12, 13, 14, 15, 0] rfl ?_
    exact w_L_beats_b599 hC hz hZ h43 hzz v1 v2 v3 v4 v5 v6 v9 v10 v11 v12 v13 v14 v15 s0 k31 k527 hk31 hk527 (by omega) (by omega) 0 _ (by omega) (by omega) hf
  · have hf := if_T hf h
    refine r_iconst (v := 1) hC dL_beats_594 rfl ?_
    refine r_goto 599 hC dL_beats_595 (by decide) ?_
    refine r_L [1, 2, 3, 4, 5, 6, 7, 8, 9, 10, 11, 12, 13, 14, 15, 0] rfl ?_
    exact w_L_beats_b599 hC hz hZ h43 hzz v1 v2 v3 v4 v5 v6 v9 v10 v11 v12 v13 v14 v15 s0 k31 k527 hk31 hk527 (by omega) (by omega) 1 _ (by omega) (by omega) hf
set_option maxRecDepth 20000 in
set_option maxHeartbeats 1000000 in
theorem w_L_beats_b1223 {X : XX} {G : GG} {Z : ZZ} {r : Int32} {M' : Mem} {Zq : ZZ} {B31 : Nat} {k n : Nat} (hC : Cx X G RL cL_beats (some .boolean) 10 4040 24240 23) (hz : ZOk G Z) (hZ : ZM Z) (h43 : At Z 43 (dA 0 4)) (hzz : Sub G Z Zq) (v1 : Int32) (v2 : Int32) (v3 : Int32) (v4 : Int32) (v5 : Int32) (v6 : Int32) (v9 : Int32) (v12 : Int32) (k31 : Int32 → Int32 → Int32 → Int32 → Int32 → Int32 → Int32 → Mem → Option (Int32 × Mem)) (hk31 : ∀ (k n : Nat) (u2 : Int32) (u3 : Int32) (u4 : Int32) (u5 : Int32) (u6 : Int32) (u8 : Int32) (u9 : Int32) (M : Mem), k ≤ B31 → n ≤ 6 * k → k31 u2 u3 u4 u5 u6 u8 u9 M = some (r, M') → V X G Z M k n (QN X G (QcI G Zq r M') 4040 24240) 31 [(0, .ref (Z.1 0)), (1, .int v1), (2, .int u2), (3, .int u3), (4, .int u4), (5, .int u5), (6, .int u6), (7, .ref (Z.1 43)), (8, .int u8), (9, .int u9)] []) (hB31 : B31 ≤ 4040) (s0 : Int32) (M : Mem) (hb31 : k + 0 ≤ B31) (hn : n ≤ 6 * k) (hf : f_L_beats_b1223 v1 v2 v3 v4 v5 v6 v9 v12 k31 s0 M = some (r, M')) : V X G Z M k n (QN X G (QcI G Zq r M') 4040 24240) 1223 [(0, .ref (Z.1 0)), (1, .int v1), (2, .int v2), (3, .int v3), (4, .int v4), (5, .int v5), (6, .int v6), (7, .ref (Z.1 43)), (9, .int v9), (12, .int v12)] [.int s0] := by
  unfold f_L_beats_b1223 at hf
  refine r_istore (L' := [(8, .int s0), (0, .ref (Z.1 0)), (1, .int v1), (2, .int v2), (3, .int v3), (4, .int v4), (5, .int v5), (6, .int v6), (7, .ref (Z.1 43)), (9, .int v9), (12, .int v12)]) hC dL_beats_1223 (by decide) rfl ?_
  refine r_iload_n hC dL_beats_1225 3 rfl ?_
  refine r_iload hC dL_beats_1226 10 rfl ?_
  refine r_iadd hC dL_beats_1228 ?_
  refine r_istore_n (L' := [(2, .int (v2 + v12)), (8, .int s0), (0, .ref (Z.1 0)), (1, .int v1), (3, .int v3), (4, .int v4), (5, .int v5), (6, .int v6), (7, .ref (Z.1 43)), (9, .int v9), (12, .int v12)]) hC dL_beats_1229 (by decide) rfl ?_
  refine r_iinc (v := v9 + 1) (L' := [(9, .int (v9 + 1)), (2, .int (v2 + v12)), (8, .int s0), (0, .ref (Z.1 0)), (1, .int v1), (3, .int v3), (4, .int v4), (5, .int v5), (6, .int v6), (7, .ref (Z.1 43)), (12, .int v12)]) hC dL_beats_1230 9 rfl rfl (by decide) rfl ?_
  refine r_goto 31 hC dL_beats_1233 (by decide) ?_
  refine r_L [3, 4, 1, 5, 6, 7, 8, 9, 2, 0] rfl ?_
  exact hk31 _ _ _ _ _ _ _ _ _ _ (by omega) (by omega) hf
set_option maxRecDepth 20000 in
set_option maxHeartbeats 1000000 in
theorem w_L_beats_b1222 {X : XX} {G : GG} {Z : ZZ} {r : Int32} {M' : Mem} {Zq : ZZ} {B31 : Nat} {k n : Nat} (hC : Cx X G RL cL_beats (some .boolean) 10 4040 24240 23) (hz : ZOk G Z) (hZ : ZM Z) (h43 : At Z 43 (dA 0 4)) (hzz : Sub G Z Zq) (v1 : Int32) (v2 : Int32) (v3 : Int32) (v4 : Int32) (v5 : Int32) (v6 : Int32) (v9 : Int32) (v12 : Int32) (k31 : Int32 → Int32 → Int32 → Int32 → Int32 → Int32 → Int32 → Mem → Option (Int32 × Mem)) (hk31 : ∀ (k n : Nat) (u2 : Int32) (u3 : Int32) (u4 : Int32) (u5 : Int32) (u6 : Int32) (u8 : Int32) (u9 : Int32) (M : Mem), k ≤ B31 → n ≤ 6 * k → k31 u2 u3 u4 u5 u6 u8 u9 M = some (r, M') → V X G Z M k n (QN X G (QcI G Zq r M') 4040 24240) 31 [(0, .ref (Z.1 0)), (1, .int v1), (2, .int u2), (3, .int u3), (4, .int u4), (5, .int u5), (6, .int u6), (7, .ref (Z.1 43)), (8, .int u8), (9, .int u9)] []) (hB31 : B31 ≤ 4040)  (M : Mem) (hb31 : k + 0 ≤ B31) (hn : n ≤ 6 * k) (hf : f_L_beats_b1222 v1 v2 v3 v4 v5 v6 v9 v12 k31 M = some (r, M')) : V X G Z M k n (QN X G (QcI G Zq r M') 4040 24240) 1222 [(0, .ref (Z.1 0)), (1, .int v1), (2, .int v2), (3, .int v3), (4, .int v4), (5, .int v5), (6, .int v6), (7, .ref (Z.1 43)), (9, .int v9), (12, .int v12)] [] := by
  unfold f_L_beats_b1222 at hf
  refine r_iconst (v := 0) hC dL_beats_1222 rfl ?_
  exact w_L_beats_b1223 hC hz hZ h43 hzz v1 v2 v3 v4 v5 v6 v9 v12 k31 hk31 (by omega) 0 _ (by omega) (by omega) hf
set_option maxRecDepth 20000 in
set_option maxHeartbeats 1000000 in
theorem w_L_beats_b1155 {X : XX} {G : GG} {Z : ZZ} {r : Int32} {M' : Mem} {Zq : ZZ} {B31 : Nat} {k n : Nat} (hC : Cx X G RL cL_beats (some .boolean) 10 4040 24240 23) (hz : ZOk G Z) (hZ : ZM Z) (h43 : At Z 43 (dA 0 4)) (hzz : Sub G Z Zq) (v1 : Int32) (v2 : Int32) (v3 : Int32) (v4 : Int32) (v5 : Int32) (v6 : Int32) (v8 : Int32) (v9 : Int32) (v10 : Int32) (v11 : Int32) (v12 : Int32) (v13 : Int32) (v14 : Int32) (k31 : Int32 → Int32 → Int32 → Int32 → Int32 → Int32 → Int32 → Mem → Option (Int32 × Mem)) (hk31 : ∀ (k n : Nat) (u2 : Int32) (u3 : Int32) (u4 : Int32) (u5 : Int32) (u6 : Int32) (u8 : Int32) (u9 : Int32) (M : Mem), k ≤ B31 → n ≤ 6 * k → k31 u2 u3 u4 u5 u6 u8 u9 M = some (r, M') → V X G Z M k n (QN X G (QcI G Zq r M') 4040 24240) 31 [(0, .ref (Z.1 0)), (1, .int v1), (2, .int u2), (3, .int u3), (4, .int u4), (5, .int u5), (6, .int u6), (7, .ref (Z.1 43)), (8, .int u8), (9, .int u9)] []) (hB31 : B31 ≤ 4040)  (M : Mem) (hb31 : k + 3 ≤ B31) (hn : n ≤ 6 * k) (hf : f_L_beats_b1155 v1 v2 v3 v4 v5 v6 v8 v9 v10 v11 v12 v13 v14 k31 M = some (r, M')) : V X G Z M k n (QN X G (QcI G Zq r M') 4040 24240) 1155 [(0, .ref (Z.1 0)), (1, .int v1), (2, .int v2), (3, .int v3), (4, .int v4), (5, .int v5), (6, .int v6), (7, .ref (Z.1 43)), (8, .int v8), (9, .int v9), (10, .int v10), (11, .int v11), (12, .int v12), (13, .int v13), (14, .int v14)] [] := by
  unfold f_L_beats_b1155 at hf
  refine r_iload hC dL_beats_1155 8 rfl ?_
  refine r_if_eq 1222 hC dL_beats_1157 (by decide) (fun h => ?_) (fun h => ?_)
  · have hf := if_T hf h
    refine r_L [0, 1, 2, 3, 4, 5, 6, 7, 9, 12] rfl ?_
    exact w_L_beats_b1222 hC hz hZ h43 hzz v1 v2 v3 v4 v5 v6 v9 v12 k31 hk31 (by omega)  _ (by omega) (by omega) hf
  · have hf := if_F hf h
    refine r_iload hC dL_beats_1160 11 rfl ?_
    refine r_aload_n hC dL_beats_1162 0 rfl ?_
    refine r_iload hC dL_beats_1163 9 rfl ?_
    refine r_iconst (v := 3) hC dL_beats_1165 rfl ?_
    refine r_wcall [.int v11] (fun r M1 h => c_L_tryBeat (cx_st hC) hz hZ v9 3 _ r M1 h) hf cs_L_161 hC rfl rfl (by decide) (by decide) (Nat.le_of_ble_eq_true rfl) (by omega) (by omega) dL_beats_1166 (fun x59 M60 hf => ?_)
    refine r_icmp_ne 1222 hC dL_beats_1169 (by decide) (fun h => ?_) (fun h => ?_)
    · have hf := if_F hf h
      refine r_L [0, 1, 2, 3, 4, 5, 6, 7, 9, 12] rfl ?_
      exact w_L_beats_b1222 hC hz hZ h43 hzz v1 v2 v3 v4 v5 v6 v9 v12 k31 hk31 (by omega)  _ (by omega) (by omega) hf
    · have hf := if_T hf h
      refine r_iload hC dL_beats_1172 12 rfl ?_
      refine r_aload_n hC dL_beats_1174 0 rfl ?_
      refine r_iload hC dL_beats_1175 9 rfl ?_
      refine r_iconst (v := 2) hC dL_beats_1177 rfl ?_
      refine r_wcall [.int v12] (fun r M1 h => c_L_tryBeat (cx_st hC) hz hZ v9 2 _ r M1 h) hf cs_L_161 hC rfl rfl (by decide) (by decide) (Nat.le_of_ble_eq_true rfl) (by omega) (by omega) dL_beats_1178 (fun x61 M62 hf => ?_)
      refine r_icmp_ne 1222 hC dL_beats_1181 (by decide) (fun h => ?_) (fun h => ?_)
      · have hf := if_F hf h
        refine r_L [0, 1, 2, 3, 4, 5, 6, 7, 9, 12] rfl ?_
        exact w_L_beats_b1222 hC hz hZ h43 hzz v1 v2 v3 v4 v5 v6 v9 v12 k31 hk31 (by omega)  _ (by omega) (by omega) hf
      · have hf := if_T hf h
        refine r_iload hC dL_beats_1184 14 rfl ?_
        refine r_aload_n hC dL_beats_1186 0 rfl ?_
        refine r_iload hC dL_beats_1187 9 rfl ?_
        refine r_iconst (v := 1) hC dL_beats_1189 rfl ?_
        refine r_wcall [.int v14] (fun r M1 h => c_L_tryBeat (cx_st hC) hz hZ v9 1 _ r M1 h) hf cs_L_161 hC rfl rfl (by decide) (by decide) (Nat.le_of_ble_eq_true rfl) (by omega) (by omega) dL_beats_1190 (fun x63 M64 hf => ?_)
        refine r_icmp_ne 1222 hC dL_beats_1193 (by decide) (fun h => ?_) (fun h => ?_)
        · have hf := if_F hf h
          refine r_L [0, 1, 2, 3, 4, 5, 6, 7, 9, 12] rfl ?_
          exact w_L_beats_b1222 hC hz hZ h43 hzz v1 v2 v3 v4 v5 v6 v9 v12 k31 hk31 (by omega)  _ (by omega) (by omega) hf
        · have hf := if_T hf h
          refine r_iload hC dL_beats_1196 13 rfl ?_
          refine r_iload hC dL_beats_1198 10 rfl ?_
          refine r_ishr hC dL_beats_1200 ?_
          refine r_iconst (v := 1) hC dL_beats_1201 rfl ?_
          refine r_iand hC dL_beats_1202 ?_
          refine r_iconst (v := 1) hC dL_beats_1203 rfl ?_
          refine r_icmp_ne 1222 hC dL_beats_1204 (by decide) (fun h => ?_) (fun h => ?_)
          · have hf := if_F hf h
            refine r_L [0, 1, 2, 3, 4, 5, 6, 7, 9, 12] rfl ?_
            exact w_L_beats_b1222 hC hz hZ h43 hzz v1 v2 v3 v4 v5 v6 v9 v12 k31 hk31 (by omega)  _ (by omega) (by omega) hf
          · have hf := if_T hf h
            refine r_iload hC dL_beats_1207 13 rfl ?_
            refine r_iconst (v := 1) hC dL_beats_1209 rfl ?_
            refine r_iload hC dL_beats_1210 11 rfl ?_
            refine r_iconst (v := 1) hC dL_beats_1212 rfl ?_
            refine r_iadd hC dL_beats_1213 ?_
            refine r_ishl hC dL_beats_1214 ?_
            refine r_icmp_ge 1222 hC dL_beats_1215 (by decide) (fun h => ?_) (fun h => ?_)
            · have hf := if_T hf h
              refine r_L [0, 1, 2, 3, 4, 5, 6, 7, 9, 12] rfl ?_
              exact w_L_beats_b1222 hC hz hZ h43 hzz v1 v2 v3 v4 v5 v6 v9 v12 k31 hk31 (by omega)  _ (by omega) (by omega) hf
            · have hf := if_F hf h
              refine r_iconst (v := 1) hC dL_beats_1218 rfl ?_
              refine r_goto 1223 hC dL_beats_1219 (by decide) ?_
              refine r_L [0, 1, 2, 3, 4, 5, 6, 7, 9, 12] rfl ?_
              exact w_L_beats_b1223 hC hz hZ h43 hzz v1 v2 v3 v4 v5 v6 v9 v12 k31 hk31 (by omega) 1 _ (by omega) (by omega) hf
set_option maxRecDepth 20000 in
set_option maxHeartbeats 1000000 in
theorem w_L_beats_b1131 {X : XX} {G : GG} {Z : ZZ} {r : Int32} {M' : Mem} {Zq : ZZ} {B31 : Nat} {B1131 : Nat} {k n : Nat} (hC : Cx X G RL cL_beats (some .boolean) 10 4040 24240 23) (hz : ZOk G Z) (hZ : ZM Z) (h43 : At Z 43 (dA 0 4)) (hzz : Sub G Z Zq) (v1 : Int32) (v2 : Int32) (v3 : Int32) (v4 : Int32) (v5 : Int32) (v6 : Int32) (v8 : Int32) (v9 : Int32) (v10 : Int32) (v11 : Int32) (v12 : Int32) (v13 : Int32) (k31 : Int32 → Int32 → Int32 → Int32 → Int32 → Int32 → Int32 → Mem → Option (Int32 × Mem)) (hk31 : ∀ (k n : Nat) (u2 : Int32) (u3 : Int32) (u4 : Int32) (u5 : Int32) (u6 : Int32) (u8 : Int32) (u9 : Int32) (M : Mem), k ≤ B31 → n ≤ 6 * k → k31 u2 u3 u4 u5 u6 u8 u9 M = some (r, M') → V X G Z M k n (QN X G (QcI G Zq r M') 4040 24240) 31 [(0, .ref (Z.1 0)), (1, .int v1), (2, .int u2), (3, .int u3), (4, .int u4), (5, .int u5), (6, .int u6), (7, .ref (Z.1 43)), (8, .int u8), (9, .int u9)] []) (hB31 : B31 ≤ 4040) (k1131 : Int32 → Int32 → Mem → Option (Int32 × Mem)) (hk1131 : ∀ (k n : Nat) (u14 : Int32) (u15 : Int32) (M : Mem), k ≤ B1131 → n ≤ 6 * k → k1131 u14 u15 M = some (r, M') → V X G Z M k n (QN X G (QcI G Zq r M') 4040 24240) 1131 [(0, .ref (Z.1 0)), (1, .int v1), (2, .int v2), (3, .int v3), (4, .int v4), (5, .int v5), (6, .int v6), (7, .ref (Z.1 43)), (8, .int v8), (9, .int v9), (10, .int v10), (11, .int v11), (12, .int v12), (13, .int v13), (14, .int u14), (15, .int u15)] []) (hB1131 : B1131 ≤ 4040) (v14 : Int32) (v15 : Int32) (M : Mem) (hb31 : k + 3 ≤ B31) (hn : n ≤ 6 * k) (hb1131 : k + 0 ≤ B1131) (hf : f_L_beats_b1131 v1 v2 v3 v4 v5 v6 v8 v9 v10 v11 v12 v13 k31 k1131 v14 v15 M = some (r, M')) : V X G Z M k n (QN X G (QcI G Zq r M') 4040 24240) 1131 [(0, .ref (Z.1 0)), (1, .int v1), (2, .int v2), (3, .int v3), (4, .int v4), (5, .int v5), (6, .int v6), (7, .ref (Z.1 43)), (8, .int v8), (9, .int v9), (10, .int v10), (11, .int v11), (12, .int v12), (13, .int v13), (14, .int v14), (15, .int v15)] [] := by
  unfold f_L_beats_b1131 at hf
  refine r_iload hC dL_beats_1131 15 rfl ?_
  refine r_iconst (v := 5) hC dL_beats_1133 rfl ?_
  refine r_icmp_ge 1155 hC dL_beats_1134 (by decide) (fun h => ?_) (fun h => ?_)
  · have hf := if_T hf h
    refine r_L [0, 1, 2, 3, 4, 5, 6, 7, 8, 9, 10, 11, 12, 13, 14] rfl ?_
    exact w_L_beats_b1155 hC hz hZ h43 hzz v1 v2 v3 v4 v5 v6 v8 v9 v10 v11 v12 v13 v14 k31 hk31 (by omega)  _ (by omega) (by omega) hf
  · have hf := if_F hf h
    refine r_iload hC dL_beats_1137 14 rfl ?_
    refine r_iload hC dL_beats_1139 13 rfl ?_
    refine r_iload hC dL_beats_1141 15 rfl ?_
    refine r_ishr hC dL_beats_1143 ?_
    refine r_iconst (v := 1) hC dL_beats_1144 rfl ?_
    refine r_iand hC dL_beats_1145 ?_
    refine r_iadd hC dL_beats_1146 ?_
    refine r_istore (L' := [(14, .int (v14 + ((v13 >>> (v15 &&& 31)) &&& 1))), (0, .ref (Z.1 0)), (1, .int v1), (2, .int v2), (3, .int v3), (4, .int v4), (5, .int v5), (6, .int v6), (7, .ref (Z.1 43)), (8, .int v8), (9, .int v9), (10, .int v10), (11, .int v11), (12, .int v12), (13, .int v13), (15, .int v15)]) hC dL_beats_1147 (by decide) rfl ?_
    refine r_iinc (v := v15 + 1) (L' := [(15, .int (v15 + 1)), (14, .int (v14 + ((v13 >>> (v15 &&& 31)) &&& 1))), (0, .ref (Z.1 0)), (1, .int v1), (2, .int v2), (3, .int v3), (4, .int v4), (5, .int v5), (6, .int v6), (7, .ref (Z.1 43)), (8, .int v8), (9, .int v9), (10, .int v10), (11, .int v11), (12, .int v12), (13, .int v13)]) hC dL_beats_1149 15 rfl rfl (by decide) rfl ?_
    refine r_goto 1131 hC dL_beats_1152 (by decide) ?_
    refine r_L [2, 3, 4, 5, 6, 7, 8, 9, 10, 11, 12, 13, 14, 15, 1, 0] rfl ?_
    exact hk1131 _ _ _ _ _ (by omega) (by omega) hf
set_option maxRecDepth 20000 in
set_option maxHeartbeats 1000000 in
theorem w_L_beats_b1116 {X : XX} {G : GG} {Z : ZZ} {r : Int32} {M' : Mem} {Zq : ZZ} {B31 : Nat} {k n : Nat} (hC : Cx X G RL cL_beats (some .boolean) 10 4040 24240 23) (hz : ZOk G Z) (hZ : ZM Z) (h43 : At Z 43 (dA 0 4)) (hzz : Sub G Z Zq) (v1 : Int32) (v2 : Int32) (v3 : Int32) (v4 : Int32) (v5 : Int32) (v6 : Int32) (v8 : Int32) (v9 : Int32) (v10 : Int32) (v11 : Int32) (v12 : Int32) (k31 : Int32 → Int32 → Int32 → Int32 → Int32 → Int32 → Int32 → Mem → Option (Int32 × Mem)) (hk31 : ∀ (k n : Nat) (u2 : Int32) (u3 : Int32) (u4 : Int32) (u5 : Int32) (u6 : Int32) (u8 : Int32) (u9 : Int32) (M : Mem), k ≤ B31 → n ≤ 6 * k → k31 u2 u3 u4 u5 u6 u8 u9 M = some (r, M') → V X G Z M k n (QN X G (QcI G Zq r M') 4040 24240) 31 [(0, .ref (Z.1 0)), (1, .int v1), (2, .int u2), (3, .int u3), (4, .int u4), (5, .int u5), (6, .int u6), (7, .ref (Z.1 43)), (8, .int u8), (9, .int u9)] []) (hB31 : B31 ≤ 4040)  (M : Mem) (hb31 : k + 4 ≤ B31) (hn : n ≤ 6 * k) (hf : f_L_beats_b1116 v1 v2 v3 v4 v5 v6 v8 v9 v10 v11 v12 k31 M = some (r, M')) : V X G Z M k n (QN X G (QcI G Zq r M') 4040 24240) 1116 [(0, .ref (Z.1 0)), (1, .int v1), (2, .int v2), (3, .int v3), (4, .int v4), (5, .int v5), (6, .int v6), (7, .ref (Z.1 43)), (8, .int v8), (9, .int v9), (10, .int v10), (11, .int v11), (12, .int v12)] [] := by
  unfold f_L_beats_b1116 at hf
  refine r_aload_n hC dL_beats_1116 0 rfl ?_
  refine r_iload hC dL_beats_1117 9 rfl ?_
  refine r_iconst (v := 4) hC dL_beats_1119 rfl ?_
  refine r_wcall [] (fun r M1 h => c_L_tryBeat (cx_st hC) hz hZ v9 4 _ r M1 h) hf cs_L_161 hC rfl rfl (by decide) (by decide) (Nat.le_of_ble_eq_true rfl) (by omega) (by omega) dL_beats_1120 (fun x45 M46 hf => ?_)
  refine r_istore (L' := [(13, .int x45), (0, .ref (Z.1 0)), (1, .int v1), (2, .int v2), (3, .int v3), (4, .int v4), (5, .int v5), (6, .int v6), (7, .ref (Z.1 43)), (8, .int v8), (9, .int v9), (10, .int v10), (11, .int v11), (12, .int v12)]) hC dL_beats_1123 (by decide) rfl ?_
  refine r_iconst (v := 0) hC dL_beats_1125 rfl ?_
  refine r_istore (L' := [(14, .int 0), (13, .int x45), (0, .ref (Z.1 0)), (1, .int v1), (2, .int v2), (3, .int v3), (4, .int v4), (5, .int v5), (6, .int v6), (7, .ref (Z.1 43)), (8, .int v8), (9, .int v9), (10, .int v10), (11, .int v11), (12, .int v12)]) hC dL_beats_1126 (by decide) rfl ?_
  refine r_iconst (v := 0) hC dL_beats_1128 rfl ?_
  refine r_istore (L' := [(15, .int 0), (14, .int 0), (13, .int x45), (0, .ref (Z.1 0)), (1, .int v1), (2, .int v2), (3, .int v3), (4, .int v4), (5, .int v5), (6, .int v6), (7, .ref (Z.1 43)), (8, .int v8), (9, .int v9), (10, .int v10), (11, .int v11), (12, .int v12)]) hC dL_beats_1129 (by decide) rfl ?_
  refine r_L [3, 4, 5, 6, 7, 8, 9, 10, 11, 12, 13, 14, 15, 2, 1, 0] rfl ?_
  exact lq2_idf (P := fun j (u14 : Int32) (u15 : Int32) (M : Mem) => ∀ k n : Nat, n ≤ 6 * k → k + 0 * j ≤ 4040 → k + (0 * j + 3) ≤ B31 → V X G Z M k n (QN X G (QcI G Zq r M') 4040 24240) 1131 [(0, .ref (Z.1 0)), (1, .int v1), (2, .int v2), (3, .int v3), (4, .int v4), (5, .int v5), (6, .int v6), (7, .ref (Z.1 43)), (8, .int v8), (9, .int v9), (10, .int v10), (11, .int v11), (12, .int v12), (13, .int x45), (14, .int u14), (15, .int u15)] []) (fun j kk hkk u14 u15 M hf k n hn hq0 hq1 => w_L_beats_b1131 hC hz hZ h43 hzz v1 v2 v3 v4 v5 v6 v8 v9 v10 v11 v12 x45 k31 hk31 (by omega) kk (fun k' n' u14 u15 M hB hn' hf' => hkk u14 u15 M hf' k' n' (by omega) (by omega) (by omega)) (k := k) (n := n) (B1131 := k + 0) (by omega) u14 u15 M (by omega) (by omega) (by omega) hf) 6 _ _ _ hf _ _ (by omega) (by omega) (by omega)
set_option maxRecDepth 20000 in
set_option maxHeartbeats 1000000 in
theorem w_L_beats_b527 {X : XX} {G : GG} {Z : ZZ} {r : Int32} {M' : Mem} {Zq : ZZ} {B31 : Nat} {B527 : Nat} {k n : Nat} (hC : Cx X G RL cL_beats (some .boolean) 10 4040 24240 23) (hz : ZOk G Z) (hZ : ZM Z) (h43 : At Z 43 (dA 0 4)) (hzz : Sub G Z Zq) (v1 : Int32) (v2 : Int32) (v4 : Int32) (v5 : Int32) (v9 : Int32) (v10 : Int32) (v11 : Int32) (k31 : Int32 → Int32 → Int32 → Int32 → Int32 → Int32 → Int32 → Mem → Option (Int32 × Mem)) (hk31 : ∀ (k n : Nat) (u2 : Int32) (u3 : Int32) (u4 : Int32) (u5 : Int32) (u6 : Int32) (u8 : Int32) (u9 : Int32) (M : Mem), k ≤ B31 → n ≤ 6 * k → k31 u2 u3 u4 u5 u6 u8 u9 M = some (r, M') → V X G Z M k n (QN X G (QcI G Zq r M') 4040 24240) 31 [(0, .ref (Z.1 0)), (1, .int v1), (2, .int u2), (3, .int u3), (4, .int u4), (5, .int u5), (6, .int u6), (7, .ref (Z.1 43)), (8, .int u8), (9, .int u9)] []) (hB31 : B31 ≤ 4040) (k527 : Int32 → Int32 → Int32 → Int32 → Int32 → Mem → Option (Int32 × Mem)) (hk527 : ∀ (k n : Nat) (u3 : Int32) (u6 : Int32) (u8 : Int32) (u12 : Int32) (u13 : Int32) (M : Mem), k ≤ B527 → n ≤ 6 * k → k527 u3 u6 u8 u12 u13 M = some (r, M') → V X G Z M k n (QN X G (QcI G Zq r M') 4040 24240) 527 [(0, .ref (Z.1 0)), (1, .int v1), (2, .int v2), (3, .int u3), (4, .int v4), (5, .int v5), (6, .int u6), (7, .ref (Z.1 43)), (8, .int u8), (9, .int v9), (10, .int v10), (11, .int v11), (12, .int u12), (13, .int u13)] []) (hB527 : B527 ≤ 4040) (v3 : Int32) (v6 : Int32) (v8 : Int32) (v12 : Int32) (v13 : Int32) (M : Mem) (hb31 : k + 4 ≤ B31) (hn : n ≤ 6 * k) (hb527 : k + 30 ≤ B527) (hf : f_L_beats_b527 v1 v2 v4 v5 v9 v10 v11 k31 k527 v3 v6 v8 v12 v13 M = some (r, M')) : V X G Z M k n (QN X G (QcI G Zq r M') 4040 24240) 527 [(0, .ref (Z.1 0)), (1, .int v1), (2, .int v2), (3, .int v3), (4, .int v4), (5, .int v5), (6, .int v6), (7, .ref (Z.1 43)), (8, .int v8), (9, .int v9), (10, .int v10), (11, .int v11), (12, .int v12), (13, .int v13)] [] := by
  unfold f_L_beats_b527 at hf
  refine r_iload hC dL_beats_527 13 rfl ?_
  refine r_iload_n hC dL_beats_529 1 rfl ?_
  refine r_icmp_ge 1116 hC dL_beats_530 (by decide) (fun h => ?_) (fun h => ?_)
  · have hf := if_T hf h
    refine r_L [0, 1, 2, 3, 4, 5, 6, 7, 8, 9, 10, 11, 12] rfl ?_
    exact w_L_beats_b1116 hC hz hZ h43 hzz v1 v2 v3 v4 v5 v6 v8 v9 v10 v11 v12 k31 hk31 (by omega)  _ (by omega) (by omega) hf
  · have hf := if_F hf h
    refine r_iload hC dL_beats_533 8 rfl ?_
    refine r_if_eq 1116 hC dL_beats_535 (by decide) (fun h => ?_) (fun h => ?_)
    · have hf := if_T hf h
      refine r_L [0, 1, 2, 3, 4, 5, 6, 7, 8, 9, 10, 11, 12] rfl ?_
      exact w_L_beats_b1116 hC hz hZ h43 hzz v1 v2 v3 v4 v5 v6 v8 v9 v10 v11 v12 k31 hk31 (by omega)  _ (by omega) (by omega) hf
    · have hf := if_F hf h
      refine r_aload_n hC dL_beats_538 0 rfl ?_
      refine r_iload hC dL_beats_539 13 rfl ?_
      refine r_iload hC dL_beats_541 9 rfl ?_
      refine r_iconst (v := 1) hC dL_beats_543 rfl ?_
      refine r_wcall [] (fun r M1 h => c_L_tryCell (cx_st hC) hz hZ v13 v9 1 _ r M1 h) hf cs_L_127 hC rfl rfl (by decide) (by decide) (Nat.le_of_ble_eq_true rfl) (by omega) (by omega) dL_beats_544 (fun x37 M38 hf => ?_)
      refine r_istore (L' := [(14, .int x37), (0, .ref (Z.1 0)), (1, .int v1), (2, .int v2), (3, .int v3), (4, .int v4), (5, .int v5), (6, .int v6), (7, .ref (Z.1 43)), (8, .int v8), (9, .int v9), (10, .int v10), (11, .int v11), (12, .int v12), (13, .int v13)]) hC dL_beats_547 (by decide) rfl ?_
      refine r_aload_n hC dL_beats_549 1 rfl ?_
      refine r_iload hC dL_beats_550 14 rfl ?_
      refine r_iload hC dL_beats_552 10 rfl ?_
      refine r_iconst (v := 1) hC dL_beats_554 rfl ?_
      refine r_wcall [] (fun r M1 h => c_L_tryNote (cx_st hC) hz hZ v13 v9 1 _ r M1 h) hf cs_L_155 hC rfl rfl (by decide) (by decide) (Nat.le_of_ble_eq_true rfl) (by omega) (by omega) dL_beats_555 (fun x39 M40 hf => ?_)
      refine r_istore (L' := [(15, .int x39), (14, .int x37), (0, .ref (Z.1 0)), (1, .int v1), (2, .int v2), (3, .int v3), (4, .int v4), (5, .int v5), (6, .int v6), (7, .ref (Z.1 43)), (8, .int v8), (9, .int v9), (10, .int v10), (11, .int v11), (12, .int v12), (13, .int v13)]) hC dL_beats_558 (by decide) rfl ?_
      refine r_aload_n hC dL_beats_560 2 rfl ?_
      refine r_iload hC dL_beats_561 15 rfl ?_
      refine r_iload hC dL_beats_563 11 rfl ?_
      refine r_iconst (v := 0) hC dL_beats_565 rfl ?_
      refine r_wcall [] (fun r M1 h => c_L_tryCell (cx_st hC) hz hZ v13 v9 0 _ r M1 h) hf cs_L_127 hC rfl rfl (by decide) (by decide) (Nat.le_of_ble_eq_true rfl) (by omega) (by omega) dL_beats_566 (fun x41 M42 hf => ?_)
      refine r_bipush (v := 99) hC dL_beats_569 rfl ?_
      refine r_icmp_ne 578 hC dL_beats_571 (by decide) (fun h => ?_) (fun h => ?_)
      · have hf := if_F hf h
        refine r_iconst (v := 0) hC dL_beats_578 rfl ?_
        refine r_L [2, 3, 4, 5, 6, 7, 8, 9, 11, 12, 13, 14, 15, 1, 0] rfl ?_
        exact w_L_beats_b579 hC hz hZ h43 hzz v1 v2 v3 v4 v5 v6 v9 v10 v11 v12 v13 x37 x39 k31 k527 hk31 hk527 (by omega) (by omega) 0 _ (by omega) (by omega) hf
      · have hf := if_T hf h
        refine r_iconst (v := 1) hC dL_beats_574 rfl ?_
        refine r_goto 579 hC dL_beats_575 (by decide) ?_
        refine r_L [2, 3, 4, 5, 6, 7, 8, 9, 11, 12, 13, 14, 15, 1, 0] rfl ?_
        exact w_L_beats_b579 hC hz hZ h43 hzz v1 v2 v3 v4 v5 v6 v9 v10 v11 v12 v13 x37 x39 k31 k527 hk31 hk527 (by omega) (by omega) 1 _ (by omega) (by omega) hf
set_option maxRecDepth 20000 in
set_option maxHeartbeats 1000000 in
theorem w_L_beats_b522 {X : XX} {G : GG} {Z : ZZ} {r : Int32} {M' : Mem} {Zq : ZZ} {B31 : Nat} {k n : Nat} (hC : Cx X G RL cL_beats (some .boolean) 10 4040 24240 23) (hz : ZOk G Z) (hZ : ZM Z) (h43 : At Z 43 (dA 0 4)) (hzz : Sub G Z Zq) (v1 : Int32) (v2 : Int32) (v3 : Int32) (v4 : Int32) (v5 : Int32) (v6 : Int32) (v9 : Int32) (v10 : Int32) (v11 : Int32) (v12 : Int32) (k31 : Int32 → Int32 → Int32 → Int32 → Int32 → Int32 → Int32 → Mem → Option (Int32 × Mem)) (hk31 : ∀ (k n : Nat) (u2 : Int32) (u3 : Int32) (u4 : Int32) (u5 : Int32) (u6 : Int32) (u8 : Int32) (u9 : Int32) (M : Mem), k ≤ B31 → n ≤ 6 * k → k31 u2 u3 u4 u5 u6 u8 u9 M = some (r, M') → V X G Z M k n (QN X G (QcI G Zq r M') 4040 24240) 31 [(0, .ref (Z.1 0)), (1, .int v1), (2, .int u2), (3, .int u3), (4, .int u4), (5, .int u5), (6, .int u6), (7, .ref (Z.1 43)), (8, .int u8), (9, .int u9)] []) (hB31 : B31 ≤ 4040) (s0 : Int32) (M : Mem) (hb31 : k + 154 ≤ B31) (hn : n ≤ 6 * k) (hf : f_L_beats_b522 v1 v2 v3 v4 v5 v6 v9 v10 v11 v12 k31 s0 M = some (r, M')) : V X G Z M k n (QN X G (QcI G Zq r M') 4040 24240) 522 [(0, .ref (Z.1 0)), (1, .int v1), (2, .int v2), (3, .int v3), (4, .int v4), (5, .int v5), (6, .int v6), (7, .ref (Z.1 43)), (9, .int v9), (10, .int v10), (11, .int v11), (12, .int v12)] [.int s0] := by
  unfold f_L_beats_b522 at hf
  refine r_istore (L' := [(8, .int s0), (0, .ref (Z.1 0)), (1, .int v1), (2, .int v2), (3, .int v3), (4, .int v4), (5, .int v5), (6, .int v6), (7, .ref (Z.1 43)), (9, .int v9), (10, .int v10), (11, .int v11), (12, .int v12)]) hC dL_beats_522 (by decide) rfl ?_
  refine r_iconst (v := 0) hC dL_beats_524 rfl ?_
  refine r_istore (L' := [(13, .int 0), (8, .int s0), (0, .ref (Z.1 0)), (1, .int v1), (2, .int v2), (3, .int v3), (4, .int v4), (5, .int v5), (6, .int v6), (7, .ref (Z.1 43)), (9, .int v9), (10, .int v10), (11, .int v11), (12, .int v12)]) hC dL_beats_525 (by decide) rfl ?_
  refine r_L [2, 3, 4, 5, 6, 7, 8, 9, 1, 10, 11, 12, 13, 0] rfl ?_
  exact lq5_idf (P := fun j (u3 : Int32) (u6 : Int32) (u8 : Int32) (u12 : Int32) (u13 : Int32) (M : Mem) => ∀ k n : Nat, n ≤ 6 * k → k + 30 * j ≤ 4040 → k + (30 * j + 4) ≤ B31 → V X G Z M k n (QN X G (QcI G Zq r M') 4040 24240) 527 [(0, .ref (Z.1 0)), (1, .int v1), (2, .int v2), (3, .int u3), (4, .int v4), (5, .int v5), (6, .int u6), (7, .ref (Z.1 43)), (8, .int u8), (9, .int v9), (10, .int v10), (11, .int v11), (12, .int u12), (13, .int u13)] []) (fun j kk hkk u3 u6 u8 u12 u13 M hf k n hn hq0 hq1 => w_L_beats_b527 hC hz hZ h43 hzz v1 v2 v4 v5 v9 v10 v11 k31 hk31 (by omega) kk (fun k' n' u3 u6 u8 u12 u13 M hB hn' hf' => hkk u3 u6 u8 u12 u13 M hf' k' n' (by omega) (by omega) (by omega)) (k := k) (n := n) (B527 := k + 30) (by omega) u3 u6 u8 u12 u13 M (by omega) (by omega) (by omega) hf) 5 _ _ _ _ _ _ hf _ _ (by omega) (by omega) (by omega)
set_option maxRecDepth 20000 in
set_option maxHeartbeats 1000000 in
theorem w_L_beats_b517 {X : XX} {G : GG} {Z : ZZ} {r : Int32} {M' : Mem} {Zq : ZZ} {B31 : Nat} {k n : Nat} (hC : Cx X G RL cL_beats (some .boolean) 10 4040 24240 23) (hz : ZOk G Z) (hZ : ZM Z) (h43 : At Z 43 (dA 0 4)) (hzz : Sub G Z Zq) (v1 : Int32) (v2 : Int32) (v3 : Int32) (v4 : Int32) (v5 : Int32) (v6 : Int32) (v9 : Int32) (v10 : Int32) (v11 : Int32) (v12 : Int32) (k31 : Int32 → Int32 → Int32 → Int32 → Int32 → Int32 → Int32 → Mem → Option (Int32 × Mem)) (hk31 : ∀ (k n : Nat) (u2 : Int32) (u3 : Int32) (u4 : Int32) (u5 : Int32) (u6 : Int32) (u8 : Int32) (u9 : Int32) (M : Mem), k ≤ B31 → n ≤ 6 * k → k31 u2 u3 u4 u5 u6 u8 u9 M = some (r, M') → V X G Z M k n (QN X G (QcI G Zq r M') 4040 24240) 31 [(0, .ref (Z.1 0)), (1, .int v1), (2, .int u2), (3, .int u3), (4, .int u4), (5, .int u5), (6, .int u6), (7, .ref (Z.1 43)), (8, .int u8), (9, .int u9)] []) (hB31 : B31 ≤ 4040)  (M : Mem) (hb31 : k + 154 ≤ B31) (hn : n ≤ 6 * k) (hf : f_L_beats_b517 v1 v2 v3 v4 v5 v6 v9 v10 v11 v12 k31 M = some (r, M')) : V X G Z M k n (QN X G (QcI G Zq r M') 4040 24240) 517 [(0, .ref (Z.1 0)), (1, .int v1), (2, .int v2), (3, .int v3), (4, .int v4), (5, .int v5), (6, .int v6), (7, .ref (Z.1 43)), (9, .int v9), (10, .int v10), (11, .int v11), (12, .int v12)] [] := by
  unfold f_L_beats_b517 at hf
  refine r_iconst (v := 1) hC dL_beats_517 rfl ?_
  refine r_goto 522 hC dL_beats_518 (by decide) ?_
  exact w_L_beats_b522 hC hz hZ h43 hzz v1 v2 v3 v4 v5 v6 v9 v10 v11 v12 k31 hk31 (by omega) 1 _ (by omega) (by omega) hf
set_option maxRecDepth 20000 in
set_option maxHeartbeats 1000000 in
theorem w_L_beats_b521 {X : XX} {G : GG} {Z : ZZ} {r : Int32} {M' : Mem} {Zq : ZZ} {B31 : Nat} {k n : Nat} (hC : Cx X G RL cL_beats (some .boolean) 10 4040 24240 23) (hz : ZOk G Z) (hZ : ZM Z) (h43 : At Z 43 (dA 0 4)) (hzz : Sub G Z Zq) (v1 : Int32) (v2 : Int32) (v3 : Int32) (v4 : Int32) (v5 : Int32) (v6 : Int32) (v9 : Int32) (v10 : Int32) (v11 : Int32) (v12 : Int32) (k31 : Int32 → Int32 → Int32 → Int32 → Int32 → Int32 → Int32 → Mem → Option (Int32 × Mem)) (hk31 : ∀ (k n : Nat) (u2 : Int32) (u3 : Int32) (u4 : Int32) (u5 : Int32) (u6 : Int32) (u8 : Int32) (u9 : Int32) (M : Mem), k ≤ B31 → n ≤ 6 * k → k31 u2 u3 u4 u5 u6 u8 u9 M = some (r, M') → V X G Z M k n (QN X G (QcI G Zq r M') 4040 24240) 31 [(0, .ref (Z.1 0)), (1, .int v1), (2, .int u2), (3, .int u3), (4, .int u4), (5, .int u5), (6, .int u6), (7, .ref (Z.1 43)), (8, .int u8), (9, .int u9)] []) (hB31 : B31 ≤ 4040)  (M : Mem) (hb31 : k + 154 ≤ B31) (hn : n ≤ 6 * k) (hf : f_L_beats_b521 v1 v2 v3 v4 v5 v6 v9 v10 v11 v12 k31 M = some (r, M')) : V X G Z M k n (QN X G (QcI G Zq r M') 4040 24240) 521 [(0, .ref (Z.1 0)), (1, .int v1), (2, .int v2), (3, .int v3), (4, .int v4), (5, .int v5), (6, .int v6), (7, .ref (Z.1 43)), (9, .int v9), (10, .int v10), (11, .int v11), (12, .int v12)] [] := by
  unfold f_L_beats_b521 at hf
  refine r_iconst (v := 0) hC dL_beats_521 rfl ?_
  exact w_L_beats_b522 hC hz hZ h43 hzz v1 v2 v3 v4 v5 v6 v9 v10 v11 v12 k31 hk31 (by omega) 0 _ (by omega) (by omega) hf
set_option maxRecDepth 20000 in
set_option maxHeartbeats 1000000 in
theorem w_L_beats_b472 {X : XX} {G : GG} {Z : ZZ} {r : Int32} {M' : Mem} {Zq : ZZ} {B31 : Nat} {k n : Nat} (hC : Cx X G RL cL_beats (some .boolean) 10 4040 24240 23) (hz : ZOk G Z) (hZ : ZM Z) (h43 : At Z 43 (dA 0 4)) (hzz : Sub G Z Zq) (v1 : Int32) (v2 : Int32) (v3 : Int32) (v4 : Int32) (v5 : Int32) (v6 : Int32) (v8 : Int32) (v9 : Int32) (v10 : Int32) (v11 : Int32) (v12 : Int32) (k31 : Int32 → Int32 → Int32 → Int32 → Int32 → Int32 → Int32 → Mem → Option (Int32 × Mem)) (hk31 : ∀ (k n : Nat) (u2 : Int32) (u3 : Int32) (u4 : Int32) (u5 : Int32) (u6 : Int32) (u8 : Int32) (u9 : Int32) (M : Mem), k ≤ B31 → n ≤ 6 * k → k31 u2 u3 u4 u5 u6 u8 u9 M = some (r, M') → V X G Z M k n (QN X G (QcI G Zq r M') 4040 24240) 31 [(0, .ref (Z.1 0)), (1, .int v1), (2, .int u2), (3, .int u3), (4, .int u4), (5, .int u5), (6, .int u6), (7, .ref (Z.1 43)), (8, .int u8), (9, .int u9)] []) (hB31 : B31 ≤ 4040)  (M : Mem) (hb31 : k + 157 ≤ B31) (hn : n ≤ 6 * k) (hf : f_L_beats_b472 v1 v2 v3 v4 v5 v6 v8 v9 v10 v11 v12 k31 M = some (r, M')) : V X G Z M k n (QN X G (QcI G Zq r M') 4040 24240) 472 [(0, .ref (Z.1 0)), (1, .int v1), (2, .int v2), (3, .int v3), (4, .int v4), (5, .int v5), (6, .int v6), (7, .ref (Z.1 43)), (8, .int v8), (9, .int v9), (10, .int v10), (11, .int v11), (12, .int v12)] [] := by
  unfold f_L_beats_b472 at hf
  refine r_iload hC dL_beats_472 8 rfl ?_
  refine r_if_eq 521 hC dL_beats_474 (by decide) (fun h => ?_) (fun h => ?_)
  · have hf := if_T hf h
    refine r_L [0, 1, 2, 3, 4, 5, 6, 7, 9, 10, 11, 12] rfl ?_
    exact w_L_beats_b521 hC hz hZ h43 hzz v1 v2 v3 v4 v5 v6 v9 v10 v11 v12 k31 hk31 (by omega)  _ (by omega) (by omega) hf
  · have hf := if_F hf h
    refine r_iload hC dL_beats_477 10 rfl ?_
    refine r_if_eq 517 hC dL_beats_479 (by decide) (fun h => ?_) (fun h => ?_)
    · have hf := if_T hf h
      refine r_L [0, 1, 2, 3, 4, 5, 6, 7, 9, 10, 11, 12] rfl ?_
      exact w_L_beats_b517 hC hz hZ h43 hzz v1 v2 v3 v4 v5 v6 v9 v10 v11 v12 k31 hk31 (by omega)  _ (by omega) (by omega) hf
    · have hf := if_F hf h
      refine r_iload hC dL_beats_482 10 rfl ?_
      refine r_iload hC dL_beats_484 11 rfl ?_
      refine r_icmp_eq 517 hC dL_beats_486 (by decide) (fun h => ?_) (fun h => ?_)
      · have hf := if_T hf h
        refine r_L [0, 1, 2, 3, 4, 5, 6, 7, 9, 10, 11, 12] rfl ?_
        exact w_L_beats_b517 hC hz hZ h43 hzz v1 v2 v3 v4 v5 v6 v9 v10 v11 v12 k31 hk31 (by omega)  _ (by omega) (by omega) hf
      · have hf := if_F hf h
        refine r_aload_n hC dL_beats_489 0 rfl ?_
        refine r_iconst (v := 0) hC dL_beats_490 rfl ?_
        refine r_iload hC dL_beats_491 9 rfl ?_
        refine r_iconst (v := 1) hC dL_beats_493 rfl ?_
        refine r_wcall [] (fun r M1 h => c_L_tryHand (cx_st hC) hz hZ 0 v9 1 _ r M1 h) hf cs_L_158 hC rfl rfl (by decide) (by decide) (Nat.le_of_ble_eq_true rfl) (by omega) (by omega) dL_beats_494 (fun x23 M24 hf => ?_)
        refine r_aload_n hC dL_beats_497 0 rfl ?_
        refine r_iconst (v := 0) hC dL_beats_498 rfl ?_
        refine r_iload hC dL_beats_499 9 rfl ?_
        refine r_iconst (v := 2) hC dL_beats_501 rfl ?_
        refine r_wcall [.int x23] (fun r M1 h => c_L_tryHand (cx_st hC) hz hZ 0 v9 2 _ r M1 h) hf cs_L_158 hC rfl rfl (by decide) (by decide) (Nat.le_of_ble_eq_true rfl) (by omega) (by omega) dL_beats_502 (fun x25 M26 hf => ?_)
        refine r_iadd hC dL_beats_505 ?_
        refine r_aload_n hC dL_beats_506 0 rfl ?_
        refine r_iconst (v := 1) hC dL_beats_507 rfl ?_
        refine r_iload hC dL_beats_508 9 rfl ?_
        refine r_iconst (v := 1) hC dL_beats_510 rfl ?_
        refine r_wcall [.int (x23 + x25)] (fun r M1 h => c_L_tryHand (cx_st hC) hz hZ 1 v9 1 _ r M1 h) hf cs_L_158 hC rfl rfl (by decide) (by decide) (Nat.le_of_ble_eq_true rfl) (by omega) (by omega) dL_beats_511 (fun x27 M28 hf => ?_)
        refine r_icmp_gt 521 hC dL_beats_514 (by decide) (fun h => ?_) (fun h => ?_)
        · have hf := if_T hf h
          refine r_L [0, 1, 2, 3, 4, 5, 6, 7, 9, 10, 11, 12] rfl ?_
          exact w_L_beats_b521 hC hz hZ h43 hzz v1 v2 v3 v4 v5 v6 v9 v10 v11 v12 k31 hk31 (by omega)  _ (by omega) (by omega) hf
        · have hf := if_F hf h
          refine r_L [0, 1, 2, 3, 4, 5, 6, 7, 9, 10, 11, 12] rfl ?_
          exact w_L_beats_b517 hC hz hZ h43 hzz v1 v2 v3 v4 v5 v6 v9 v10 v11 v12 k31 hk31 (by omega)  _ (by omega) (by omega) hf
set_option maxRecDepth 20000 in
set_option maxHeartbeats 1000000 in
theorem w_L_beats_b65 {X : XX} {G : GG} {Z : ZZ} {r : Int32} {M' : Mem} {Zq : ZZ} {B31 : Nat} {B65 : Nat} {k n : Nat} (hC : Cx X G RL cL_beats (some .boolean) 10 4040 24240 23) (hz : ZOk G Z) (hZ : ZM Z) (h43 : At Z 43 (dA 0 4)) (hzz : Sub G Z Zq) (v1 : Int32) (v2 : Int32) (v3 : Int32) (v6 : Int32) (v9 : Int32) (v10 : Int32) (k31 : Int32 → Int32 → Int32 → Int32 → Int32 → Int32 → Int32 → Mem → Option (Int32 × Mem)) (hk31 : ∀ (k n : Nat) (u2 : Int32) (u3 : Int32) (u4 : Int32) (u5 : Int32) (u6 : Int32) (u8 : Int32) (u9 : Int32) (M : Mem), k ≤ B31 → n ≤ 6 * k → k31 u2 u3 u4 u5 u6 u8 u9 M = some (r, M') → V X G Z M k n (QN X G (QcI G Zq r M') 4040 24240) 31 [(0, .ref (Z.1 0)), (1, .int v1), (2, .int u2), (3, .int u3), (4, .int u4), (5, .int u5), (6, .int u6), (7, .ref (Z.1 43)), (8, .int u8), (9, .int u9)] []) (hB31 : B31 ≤ 4040) (k65 : Int32 → Int32 → Int32 → Int32 → Int32 → Int32 → Mem → Option (Int32 × Mem)) (hk65 : ∀ (k n : Nat) (u4 : Int32) (u5 : Int32) (u8 : Int32) (u11 : Int32) (u12 : Int32) (u13 : Int32) (M : Mem), k ≤ B65 → n ≤ 6 * k → k65 u4 u5 u8 u11 u12 u13 M = some (r, M') → V X G Z M k n (QN X G (QcI G Zq r M') 4040 24240) 65 [(0, .ref (Z.1 0)), (1, .int v1), (2, .int v2), (3, .int v3), (4, .int u4), (5, .int u5), (6, .int v6), (7, .ref (Z.1 43)), (8, .int u8), (9, .int v9), (10, .int v10), (11, .int u11), (12, .int u12), (13, .int u13)] []) (hB65 : B65 ≤ 4040) (v4 : Int32) (v5 : Int32) (v8 : Int32) (v11 : Int32) (v12 : Int32) (v13 : Int32) (M : Mem) (hb31 : k + 157 ≤ B31) (hn : n ≤ 6 * k) (hb65 : k + 26 ≤ B65) (hf : f_L_beats_b65 v1 v2 v3 v6 v9 v10 k31 k65 v4 v5 v8 v11 v12 v13 M = some (r, M')) : V X G Z M k n (QN X G (QcI G Zq r M') 4040 24240) 65 [(0, .ref (Z.1 0)), (1, .int v1), (2, .int v2), (3, .int v3), (4, .int v4), (5, .int v5), (6, .int v6), (7, .ref (Z.1 43)), (8, .int v8), (9, .int v9), (10, .int v10), (11, .int v11), (12, .int v12), (13, .int v13)] [] := by
  unfold f_L_beats_b65 at hf
  refine r_iload hC dL_beats_65 13 rfl ?_
  refine r_iconst (v := 2) hC dL_beats_67 rfl ?_
  refine r_icmp_ge 472 hC dL_beats_68 (by decide) (fun h => ?_) (fun h => ?_)
  · have hf := if_T hf h
    refine r_L [0, 1, 2, 3, 4, 5, 6, 7, 8, 9, 10, 11, 12] rfl ?_
    exact w_L_beats_b472 hC hz hZ h43 hzz v1 v2 v3 v4 v5 v6 v8 v9 v10 v11 v12 k31 hk31 (by omega)  _ (by omega) (by omega) hf
  · have hf := if_F hf h
    refine r_iload hC dL_beats_71 8 rfl ?_
    refine r_if_eq 472 hC dL_beats_73 (by decide) (fun h => ?_) (fun h => ?_)
    · have hf := if_T hf h
      refine r_L [0, 1, 2, 3, 4, 5, 6, 7, 8, 9, 10, 11, 12] rfl ?_
      exact w_L_beats_b472 hC hz hZ h43 hzz v1 v2 v3 v4 v5 v6 v8 v9 v10 v11 v12 k31 hk31 (by omega)  _ (by omega) (by omega) hf
    · have hf := if_F hf h
      refine r_iconst (v := 0) hC dL_beats_76 rfl ?_
      refine r_istore (L' := [(14, .int 0), (0, .ref (Z.1 0)), (1, .int v1), (2, .int v2), (3, .int v3), (4, .int v4), (5, .int v5), (6, .int v6), (7, .ref (Z.1 43)), (8, .int v8), (9, .int v9), (10, .int v10), (11, .int v11), (12, .int v12), (13, .int v13)]) hC dL_beats_77 (by decide) rfl ?_
      refine r_bipush (v := 99) hC dL_beats_79 rfl ?_
      refine r_istore (L' := [(15, .int 99), (14, .int 0), (0, .ref (Z.1 0)), (1, .int v1), (2, .int v2), (3, .int v3), (4, .int v4), (5, .int v5), (6, .int v6), (7, .ref (Z.1 43)), (8, .int v8), (9, .int v9), (10, .int v10), (11, .int v11), (12, .int v12), (13, .int v13)]) hC dL_beats_81 (by decide) rfl ?_
      refine r_iconst (v := (-1)) hC dL_beats_83 rfl ?_
      refine r_istore (L' := [(16, .int (-1)), (15, .int 99), (14, .int 0), (0, .ref (Z.1 0)), (1, .int v1), (2, .int v2), (3, .int v3), (4, .int v4), (5, .int v5), (6, .int v6), (7, .ref (Z.1 43)), (8, .int v8), (9, .int v9), (10, .int v10), (11, .int v11), (12, .int v12), (13, .int v13)]) hC dL_beats_84 (by decide) rfl ?_
      refine r_iconst (v := 0) hC dL_beats_86 rfl ?_
      refine r_istore (L' := [(17, .int 0), (16, .int (-1)), (15, .int 99), (14, .int 0), (0, .ref (Z.1 0)), (1, .int v1), (2, .int v2), (3, .int v3), (4, .int v4), (5, .int v5), (6, .int v6), (7, .ref (Z.1 43)), (8, .int v8), (9, .int v9), (10, .int v10), (11, .int v11), (12, .int v12), (13, .int v13)]) hC dL_beats_87 (by decide) rfl ?_
      refine r_iconst (v := 0) hC dL_beats_89 rfl ?_
      refine r_istore (L' := [(18, .int 0), (17, .int 0), (16, .int (-1)), (15, .int 99), (14, .int 0), (0, .ref (Z.1 0)), (1, .int v1), (2, .int v2), (3, .int v3), (4, .int v4), (5, .int v5), (6, .int v6), (7, .ref (Z.1 43)), (8, .int v8), (9, .int v9), (10, .int v10), (11, .int v11), (12, .int v12), (13, .int v13)]) hC dL_beats_90 (by decide) rfl ?_
      refine r_L [5, 6, 7, 8, 9, 10, 11, 12, 14, 15, 16, 17, 18, 4, 3, 2, 1, 0] rfl ?_
      exact lq5_idf (P := fun j (u14 : Int32) (u15 : Int32) (u16 : Int32) (u17 : Int32) (u18 : Int32) (M : Mem) => ∀ k n : Nat, n ≤ 6 * k → k + 3 * j ≤ 4040 → k + (3 * j + 11) ≤ B65 → V X G Z M k n (QN X G (QcI G Zq r M') 4040 24240) 92 [(0, .ref (Z.1 0)), (1, .int v1), (2, .int v2), (3, .int v3), (4, .int v4), (5, .int v5), (6, .int v6), (7, .ref (Z.1 43)), (9, .int v9), (10, .int v10), (11, .int v11), (12, .int v12), (13, .int v13), (14, .int u14), (15, .int u15), (16, .int u16), (17, .int u17), (18, .int u18)] []) (fun j kk hkk u14 u15 u16 u17 u18 M hf k n hn hq0 hq1 => w_L_beats_b92 hC hz hZ h43 hzz v1 v2 v3 v4 v5 v6 v9 v10 v11 v12 v13 k31 k65 hk31 hk65 (by omega) (by omega) kk (fun k' n' u14 u15 u16 u17 u18 M hB hn' hf' => hkk u14 u15 u16 u17 u18 M hf' k' n' (by omega) (by omega) (by omega)) (k := k) (n := n) (B92 := k + 3) (by omega) u14 u15 u16 u17 u18 M (by omega) (by omega) (by omega) hf) 5 _ _ _ _ _ _ hf _ _ (by omega) (by omega) (by omega)
set_option maxRecDepth 20000 in
set_option maxHeartbeats 1000000 in
theorem w_L_beats_b1236 {X : XX} {G : GG} {Z : ZZ} {r : Int32} {M' : Mem} {Zq : ZZ}  {k n : Nat} (hC : Cx X G RL cL_beats (some .boolean) 10 4040 24240 23) (hz : ZOk G Z) (hZ : ZM Z) (h43 : At Z 43 (dA 0 4)) (hzz : Sub G Z Zq) (v2 : Int32) (v3 : Int32) (v4 : Int32) (v5 : Int32) (v6 : Int32) (v8 : Int32)    (M : Mem) (hb : k + 8 ≤ 4040) (hn : n ≤ 6 * k) (hf : f_L_beats_b1236 v2 v3 v4 v5 v6 v8 M = some (r, M')) : V X G Z M k n (QN X G (QcI G Zq r M') 4040 24240) 1236 [(0, .ref (Z.1 0)), (2, .int v2), (3, .int v3), (4, .int v4), (5, .int v5), (6, .int v6), (7, .ref (Z.1 43)), (8, .int v8)] [] := by
  unfold f_L_beats_b1236 at hf
  refine r_iload hC dL_beats_1236 7 rfl ?_
  refine r_if_eq 1331 hC dL_beats_1238 (by decide) (fun h => ?_) (fun h => ?_)
  · have hf := if_T hf h
    refine r_iconst (v := 0) hC dL_beats_1331 rfl ?_
    exact r_zretS hzz hf hC rfl rfl (by omega) (by omega) dL_beats_1332
  · have hf := if_F hf h
    refine r_iload_n hC dL_beats_1241 1 rfl ?_
    refine r_aload_n hC dL_beats_1242 0 rfl ?_
    refine r_iconst (v := 0) hC dL_beats_1243 rfl ?_
    refine r_wcall [.int v2] (fun r M1 h => c_L_tryWhole (cx_st hC) hz hZ 0 _ r M1 h) hf cs_L_124 hC rfl rfl (by decide) (by decide) (Nat.le_of_ble_eq_true rfl) (by omega) (by omega) dL_beats_1244 (fun x7 M8 hf => ?_)
    refine r_icmp_ne 1331 hC dL_beats_1247 (by decide) (fun h => ?_) (fun h => ?_)
    · have hf := if_F hf h
      refine r_iconst (v := 0) hC dL_beats_1331 rfl ?_
      exact r_zretS hzz hf hC rfl rfl (by omega) (by omega) dL_beats_1332
    · have hf := if_T hf h
      refine r_aload hC dL_beats_1250 6 rfl ?_
      refine r_iconst (v := 1) hC dL_beats_1252 rfl ?_
      have hin := if_K hf
      have hf := if_V hf
      refine r_iald hC h43 (inb_vp hin) dL_beats_1253 ?_
      refine r_aload_n hC dL_beats_1254 0 rfl ?_
      refine r_iconst (v := 1) hC dL_beats_1255 rfl ?_
      refine r_wcall [.int (M8 43 (Int32.toNatClampNeg 1))] (fun r M1 h => c_L_tryWhole (cx_st hC) hz hZ 1 _ r M1 h) hf cs_L_124 hC rfl rfl (by decide) (by decide) (Nat.le_of_ble_eq_true rfl) (by omega) (by omega) dL_beats_1256 (fun x9 M10 hf => ?_)
      refine r_icmp_ne 1331 hC dL_beats_1259 (by decide) (fun h => ?_) (fun h => ?_)
      · have hf := if_F hf h
        refine r_iconst (v := 0) hC dL_beats_1331 rfl ?_
        exact r_zretS hzz hf hC rfl rfl (by omega) (by omega) dL_beats_1332
      · have hf := if_T hf h
        refine r_aload hC dL_beats_1262 6 rfl ?_
        refine r_iconst (v := 2) hC dL_beats_1264 rfl ?_
        have hin := if_K hf
        have hf := if_V hf
        refine r_iald hC h43 (inb_vp hin) dL_beats_1265 ?_
        refine r_aload_n hC dL_beats_1266 0 rfl ?_
        refine r_iconst (v := 2) hC dL_beats_1267 rfl ?_
        refine r_wcall [.int (M10 43 (Int32.toNatClampNeg 2))] (fun r M1 h => c_L_tryWhole (cx_st hC) hz hZ 2 _ r M1 h) hf cs_L_124 hC rfl rfl (by decide) (by decide) (Nat.le_of_ble_eq_true rfl) (by omega) (by omega) dL_beats_1268 (fun x11 M12 hf => ?_)
        refine r_icmp_ne 1331 hC dL_beats_1271 (by decide) (fun h => ?_) (fun h => ?_)
        · have hf := if_F hf h
          refine r_iconst (v := 0) hC dL_beats_1331 rfl ?_
          exact r_zretS hzz hf hC rfl rfl (by omega) (by omega) dL_beats_1332
        · have hf := if_T hf h
          refine r_aload hC dL_beats_1274 6 rfl ?_
          refine r_iconst (v := 3) hC dL_beats_1276 rfl ?_
          have hin := if_K hf
          have hf := if_V hf
          refine r_iald hC h43 (inb_vp hin) dL_beats_1277 ?_
          refine r_aload_n hC dL_beats_1278 0 rfl ?_
          refine r_iconst (v := 3) hC dL_beats_1279 rfl ?_
          refine r_wcall [.int (M12 43 (Int32.toNatClampNeg 3))] (fun r M1 h => c_L_tryWhole (cx_st hC) hz hZ 3 _ r M1 h) hf cs_L_124 hC rfl rfl (by decide) (by decide) (Nat.le_of_ble_eq_true rfl) (by omega) (by omega) dL_beats_1280 (fun x13 M14 hf => ?_)
          refine r_icmp_ne 1331 hC dL_beats_1283 (by decide) (fun h => ?_) (fun h => ?_)
          · have hf := if_F hf h
            refine r_iconst (v := 0) hC dL_beats_1331 rfl ?_
            exact r_zretS hzz hf hC rfl rfl (by omega) (by omega) dL_beats_1332
          · have hf := if_T hf h
            refine r_iload_n hC dL_beats_1286 2 rfl ?_
            refine r_aload_n hC dL_beats_1287 0 rfl ?_
            refine r_iconst (v := 4) hC dL_beats_1288 rfl ?_
            refine r_wcall [.int v3] (fun r M1 h => c_L_tryWhole (cx_st hC) hz hZ 4 _ r M1 h) hf cs_L_124 hC rfl rfl (by decide) (by decide) (Nat.le_of_ble_eq_true rfl) (by omega) (by omega) dL_beats_1289 (fun x15 M16 hf => ?_)
            refine r_icmp_ne 1331 hC dL_beats_1292 (by decide) (fun h => ?_) (fun h => ?_)
            · have hf := if_F hf h
              refine r_iconst (v := 0) hC dL_beats_1331 rfl ?_
              exact r_zretS hzz hf hC rfl rfl (by omega) (by omega) dL_beats_1332
            · have hf := if_T hf h
              refine r_iload hC dL_beats_1295 3 rfl ?_
              refine r_aload_n hC dL_beats_1297 0 rfl ?_
              refine r_iconst (v := 5) hC dL_beats_1298 rfl ?_
              refine r_wcall [.int v4] (fun r M1 h => c_L_tryWhole (cx_st hC) hz hZ 5 _ r M1 h) hf cs_L_124 hC rfl rfl (by decide) (by decide) (Nat.le_of_ble_eq_true rfl) (by omega) (by omega) dL_beats_1299 (fun x17 M18 hf => ?_)
              refine r_icmp_ne 1331 hC dL_beats_1302 (by decide) (fun h => ?_) (fun h => ?_)
              · have hf := if_F hf h
                refine r_iconst (v := 0) hC dL_beats_1331 rfl ?_
                exact r_zretS hzz hf hC rfl rfl (by omega) (by omega) dL_beats_1332
              · have hf := if_T hf h
                refine r_iload hC dL_beats_1305 4 rfl ?_
                refine r_aload_n hC dL_beats_1307 0 rfl ?_
                refine r_bipush (v := 6) hC dL_beats_1308 rfl ?_
                refine r_wcall [.int v5] (fun r M1 h => c_L_tryWhole (cx_st hC) hz hZ 6 _ r M1 h) hf cs_L_124 hC rfl rfl (by decide) (by decide) (Nat.le_of_ble_eq_true rfl) (by omega) (by omega) dL_beats_1310 (fun x19 M20 hf => ?_)
                refine r_icmp_ne 1331 hC dL_beats_1313 (by decide) (fun h => ?_) (fun h => ?_)
                · have hf := if_F hf h
                  refine r_iconst (v := 0) hC dL_beats_1331 rfl ?_
                  exact r_zretS hzz hf hC rfl rfl (by omega) (by omega) dL_beats_1332
                · have hf := if_T hf h
                  refine r_iload hC dL_beats_1316 5 rfl ?_
                  refine r_aload_n hC dL_beats_1318 0 rfl ?_
                  refine r_bipush (v := 7) hC dL_beats_1319 rfl ?_
                  refine r_wcall [.int v6] (fun r M1 h => c_L_tryWhole (cx_st hC) hz hZ 7 _ r M1 h) hf cs_L_124 hC rfl rfl (by decide) (by decide) (Nat.le_of_ble_eq_true rfl) (by omega) (by omega) dL_beats_1321 (fun x21 M22 hf => ?_)
                  refine r_icmp_ne 1331 hC dL_beats_1324 (by decide) (fun h => ?_) (fun h => ?_)
                  · have hf := if_F hf h
                    refine r_iconst (v := 0) hC dL_beats_1331 rfl ?_
                    exact r_zretS hzz hf hC rfl rfl (by omega) (by omega) dL_beats_1332
                  · have hf := if_T hf h
                    refine r_iconst (v := 1) hC dL_beats_1327 rfl ?_
                    refine r_goto 1332 hC dL_beats_1328 (by decide) ?_
                    exact r_zretS hzz hf hC rfl rfl (by omega) (by omega) dL_beats_1332
set_option maxRecDepth 20000 in
set_option maxHeartbeats 1000000 in
theorem w_L_beats_b31 {X : XX} {G : GG} {Z : ZZ} {r : Int32} {M' : Mem} {Zq : ZZ} {B31 : Nat} {k n : Nat} (hC : Cx X G RL cL_beats (some .boolean) 10 4040 24240 23) (hz : ZOk G Z) (hZ : ZM Z) (h43 : At Z 43 (dA 0 4)) (hzz : Sub G Z Zq) (v1 : Int32)   (k31 : Int32 → Int32 → Int32 → Int32 → Int32 → Int32 → Int32 → Mem → Option (Int32 × Mem)) (hk31 : ∀ (k n : Nat) (u2 : Int32) (u3 : Int32) (u4 : Int32) (u5 : Int32) (u6 : Int32) (u8 : Int32) (u9 : Int32) (M : Mem), k ≤ B31 → n ≤ 6 * k → k31 u2 u3 u4 u5 u6 u8 u9 M = some (r, M') → V X G Z M k n (QN X G (QcI G Zq r M') 4040 24240) 31 [(0, .ref (Z.1 0)), (1, .int v1), (2, .int u2), (3, .int u3), (4, .int u4), (5, .int u5), (6, .int u6), (7, .ref (Z.1 43)), (8, .int u8), (9, .int u9)] []) (hB31 : B31 ≤ 4040) (v2 : Int32) (v3 : Int32) (v4 : Int32) (v5 : Int32) (v6 : Int32) (v8 : Int32) (v9 : Int32) (M : Mem) (hb : k + 9 ≤ 4040) (hn : n ≤ 6 * k) (hb31 : k + 237 ≤ B31) (hf : f_L_beats_b31 v1 k31 v2 v3 v4 v5 v6 v8 v9 M = some (r, M')) : V X G Z M k n (QN X G (QcI G Zq r M') 4040 24240) 31 [(0, .ref (Z.1 0)), (1, .int v1), (2, .int v2), (3, .int v3), (4, .int v4), (5, .int v5), (6, .int v6), (7, .ref (Z.1 43)), (8, .int v8), (9, .int v9)] [] := by
  unfold f_L_beats_b31 at hf
  refine r_iload hC dL_beats_31 9 rfl ?_
  refine r_aload_n hC dL_beats_33 0 rfl ?_
  refine r_bipush (v := 7) hC dL_beats_34 rfl ?_
  refine r_wcall [.int v9] (fun r M1 h => c_L_tryAbout (cx_st hC) hz hZ 7 _ r M1 h) hf cs_L_115 hC rfl rfl (by decide) (by decide) (Nat.le_of_ble_eq_true rfl) (by omega) (by omega) dL_beats_36 (fun x3 M4 hf => ?_)
  refine r_icmp_ge 1236 hC dL_beats_39 (by decide) (fun h => ?_) (fun h => ?_)
  · have hf := if_T hf h
    refine r_L [0, 2, 3, 4, 5, 6, 7, 8] rfl ?_
    exact w_L_beats_b1236 hC hz hZ h43 hzz v2 v3 v4 v5 v6 v8   _ (by omega) (by omega) hf
  · have hf := if_F hf h
    refine r_iload hC dL_beats_42 8 rfl ?_
    refine r_if_eq 1236 hC dL_beats_44 (by decide) (fun h => ?_) (fun h => ?_)
    · have hf := if_T hf h
      refine r_L [0, 2, 3, 4, 5, 6, 7, 8] rfl ?_
      exact w_L_beats_b1236 hC hz hZ h43 hzz v2 v3 v4 v5 v6 v8   _ (by omega) (by omega) hf
    · have hf := if_F hf h
      refine r_aload_n hC dL_beats_47 0 rfl ?_
      refine r_iload hC dL_beats_48 9 rfl ?_
      refine r_iconst (v := 0) hC dL_beats_50 rfl ?_
      refine r_wcall [] (fun r M1 h => c_L_tryBeat (cx_st hC) hz hZ v9 0 _ r M1 h) hf cs_L_161 hC rfl rfl (by decide) (by decide) (Nat.le_of_ble_eq_true rfl) (by omega) (by omega) dL_beats_51 (fun x5 M6 hf => ?_)
      refine r_istore (L' := [(10, .int x5), (0, .ref (Z.1 0)), (1, .int v1), (2, .int v2), (3, .int v3), (4, .int v4), (5, .int v5), (6, .int v6), (7, .ref (Z.1 43)), (8, .int v8), (9, .int v9)]) hC dL_beats_54 (by decide) rfl ?_
      refine r_iconst (v := 0) hC dL_beats_56 rfl ?_
      refine r_istore (L' := [(11, .int 0), (10, .int x5), (0, .ref (Z.1 0)), (1, .int v1), (2, .int v2), (3, .int v3), (4, .int v4), (5, .int v5), (6, .int v6), (7, .ref (Z.1 43)), (8, .int v8), (9, .int v9)]) hC dL_beats_57 (by decide) rfl ?_
      refine r_iconst (v := 0) hC dL_beats_59 rfl ?_
      refine r_istore (L' := [(12, .int 0), (11, .int 0), (10, .int x5), (0, .ref (Z.1 0)), (1, .int v1), (2, .int v2), (3, .int v3), (4, .int v4), (5, .int v5), (6, .int v6), (7, .ref (Z.1 43)), (8, .int v8), (9, .int v9)]) hC dL_beats_60 (by decide) rfl ?_
      refine r_iconst (v := 0) hC dL_beats_62 rfl ?_
      refine r_istore (L' := [(13, .int 0), (12, .int 0), (11, .int 0), (10, .int x5), (0, .ref (Z.1 0)), (1, .int v1), (2, .int v2), (3, .int v3), (4, .int v4), (5, .int v5), (6, .int v6), (7, .ref (Z.1 43)), (8, .int v8), (9, .int v9)]) hC dL_beats_63 (by decide) rfl ?_
      refine r_L [4, 5, 6, 7, 8, 9, 10, 11, 12, 13, 3, 2, 1, 0] rfl ?_
      exact lq6_idf (P := fun j (u4 : Int32) (u5 : Int32) (u8 : Int32) (u11 : Int32) (u12 : Int32) (u13 : Int32) (M : Mem) => ∀ k n : Nat, n ≤ 6 * k → k + 26 * j ≤ 4040 → k + (26 * j + 157) ≤ B31 → V X G Z M k n (QN X G (QcI G Zq r M') 4040 24240) 65 [(0, .ref (Z.1 0)), (1, .int v1), (2, .int v2), (3, .int v3), (4, .int u4), (5, .int u5), (6, .int v6), (7, .ref (Z.1 43)), (8, .int u8), (9, .int v9), (10, .int x5), (11, .int u11), (12, .int u12), (13, .int u13)] []) (fun j kk hkk u4 u5 u8 u11 u12 u13 M hf k n hn hq0 hq1 => w_L_beats_b65 hC hz hZ h43 hzz v1 v2 v3 v6 v9 x5 k31 hk31 (by omega) kk (fun k' n' u4 u5 u8 u11 u12 u13 M hB hn' hf' => hkk u4 u5 u8 u11 u12 u13 M hf' k' n' (by omega) (by omega) (by omega)) (k := k) (n := n) (B65 := k + 26) (by omega) u4 u5 u8 u11 u12 u13 M (by omega) (by omega) (by omega) hf) 3 _ _ _ _ _ _ _ hf _ _ (by omega) (by omega) (by omega)
set_option maxRecDepth 20000 in
set_option maxHeartbeats 1000000 in
theorem w_L_beats {X : XX} {G : GG} {Zq : ZZ} (hC : Cx X G RL cL_beats (some .boolean) 10 4040 24240 23) (hzq0 : ZOk G Zq) (hZq0 : ZM Zq) (hk43 : ZK G Zq) (hn43 : 43 ∉ Zq.2.2)  (M : Mem) {r : Int32} {M' : Mem} (hf : f_L_beats  M = some (r, M')) : V X G Zq M 0 0 (QN X G (QcI G Zq r M') 4040 24240) 0 [(0, .ref (Zq.1 0))] [] := by
  have hb : 0 + 4040 ≤ 4040 := Nat.le_refl _
  have hn : 0 ≤ 6 * 0 := Nat.le_refl _
  unfold f_L_beats at hf
  refine r_aload_n hC dL_beats_0 0 rfl ?_
  refine r_bipush (v := 6) hC dL_beats_1 rfl ?_
  refine r_wcall [] (fun r M1 h => c_L_tryAbout (cx_st hC) hzq0 hZq0 6 _ r M1 h) hf cs_L_115 hC rfl rfl (by decide) (by decide) (Nat.le_of_ble_eq_true rfl) (by omega) (by omega) dL_beats_3 (fun x1 M2 hf => ?_)
  refine r_istore_n (L' := [(1, .int x1), (0, .ref (Zq.1 0))]) hC dL_beats_6 (by decide) rfl ?_
  refine r_iconst (v := 0) hC dL_beats_7 rfl ?_
  refine r_istore_n (L' := [(2, .int 0), (1, .int x1), (0, .ref (Zq.1 0))]) hC dL_beats_8 (by decide) rfl ?_
  refine r_iconst (v := 0) hC dL_beats_9 rfl ?_
  refine r_istore_n (L' := [(3, .int 0), (2, .int 0), (1, .int x1), (0, .ref (Zq.1 0))]) hC dL_beats_10 (by decide) rfl ?_
  refine r_iconst (v := 0) hC dL_beats_11 rfl ?_
  refine r_istore (L' := [(4, .int 0), (3, .int 0), (2, .int 0), (1, .int x1), (0, .ref (Zq.1 0))]) hC dL_beats_12 (by decide) rfl ?_
  refine r_iconst (v := 0) hC dL_beats_14 rfl ?_
  refine r_istore (L' := [(5, .int 0), (4, .int 0), (3, .int 0), (2, .int 0), (1, .int x1), (0, .ref (Zq.1 0))]) hC dL_beats_15 (by decide) rfl ?_
  refine r_iconst (v := 0) hC dL_beats_17 rfl ?_
  refine r_istore (L' := [(6, .int 0), (5, .int 0), (4, .int 0), (3, .int 0), (2, .int 0), (1, .int x1), (0, .ref (Zq.1 0))]) hC dL_beats_18 (by decide) rfl ?_
  refine r_iconst (v := 4) hC dL_beats_20 rfl ?_
  refine r_new4 hC hk43 hn43 (by omega) (by omega) dL_beats_21 (fun a43 hz a2 h43 hzz => ?_)
  have hZ := ZM.up hZq0 a2
  have ea : a43 = (zadd Zq 43 a43 (dA 0 4)).1 43 := zadd_11.symm
  have e0 : Zq.1 0 = (zadd Zq 43 a43 (dA 0 4)).1 0 := (zadd_1 (by decide)).symm
  generalize hze : zadd Zq 43 a43 (dA 0 4) = Z at hz a2 h43 hzz hZ ea e0 ⊢
  rw [e0, ea]
  refine r_astore (L' := [(7, .ref (Z.1 43)), (6, .int 0), (5, .int 0), (4, .int 0), (3, .int 0), (2, .int 0), (1, .int x1), (0, .ref (Z.1 0))]) hC dL_beats_23 (by decide) rfl ?_
  refine r_iconst (v := 1) hC dL_beats_25 rfl ?_
  refine r_istore (L' := [(8, .int 1), (7, .ref (Z.1 43)), (6, .int 0), (5, .int 0), (4, .int 0), (3, .int 0), (2, .int 0), (1, .int x1), (0, .ref (Z.1 0))]) hC dL_beats_26 (by decide) rfl ?_
  refine r_iconst (v := 0) hC dL_beats_28 rfl ?_
  refine r_istore (L' := [(9, .int 0), (8, .int 1), (7, .ref (Z.1 43)), (6, .int 0), (5, .int 0), (4, .int 0), (3, .int 0), (2, .int 0), (1, .int x1), (0, .ref (Z.1 0))]) hC dL_beats_29 (by decide) rfl ?_
  refine r_L [9, 8, 7, 6, 5, 4, 3, 2, 1, 0] rfl ?_
  exact lq7_idf (P := fun j (u2 : Int32) (u3 : Int32) (u4 : Int32) (u5 : Int32) (u6 : Int32) (u8 : Int32) (u9 : Int32) (M : Mem) => ∀ k n : Nat, n ≤ 6 * k → k + (237 * j + 9) ≤ 4040 → V X G Z M k n (QN X G (QcI G Zq r M') 4040 24240) 31 [(0, .ref (Z.1 0)), (1, .int x1), (2, .int u2), (3, .int u3), (4, .int u4), (5, .int u5), (6, .int u6), (7, .ref (Z.1 43)), (8, .int u8), (9, .int u9)] []) (fun j kk hkk u2 u3 u4 u5 u6 u8 u9 M hf k n hn hq0 => w_L_beats_b31 hC hz hZ h43 hzz x1  kk (fun k' n' u2 u3 u4 u5 u6 u8 u9 M hB hn' hf' => hkk u2 u3 u4 u5 u6 u8 u9 M hf' k' n' (by omega) (by omega)) (k := k) (n := n) (B31 := k + 237) (by omega) u2 u3 u4 u5 u6 u8 u9 M (by omega) (by omega) (by omega) hf) 17 _ _ _ _ _ _ _ _ hf _ _ (by omega) (by omega)
set_option maxRecDepth 20000 in
set_option maxHeartbeats 1000000 in
theorem c_L_beats {l : Launch} (hl : l.stackTraces = false) {G : GG} {Z : ZZ} (hz : ZOk G Z) (hZ : ZM Z) (hk43 : ZK G Z) (hn43 : 43 ∉ Z.2.2)  (M : Mem) (r : Int32) (M' : Mem) (hf : f_L_beats  M = some (r, M')) : CC (QcI G Z r M') l G Z yL_beats cL_beats 23 (some .boolean) 10 4040 24240 [.ref (Z.1 0)] M :=
  CC.of [(0, .ref (Z.1 0))] hl (by decide +kernel) (Nat.le_of_ble_eq_true rfl) rfl (fun _ hC => w_L_beats hC hz hZ hk43 hn43  M hf)
