set_option maxRecDepth 20000 in
set_option maxHeartbeats 1000000 in
theorem w_L_told_b212 {X : XX} {G : GG} {Z : ZZ} {r : Int32} {M' : Mem} {B107 : Nat} {B125 : Nat} {k n : Nat} (hC : Cx X G RL cL_told (some .boolean) 9 359 2154 16) (hz : ZOk G Z) (hZ : ZM Z) (hzq : ZOk G (swZ Z)) (hZq : ZM (swZ Z)) (v3 : Int32) (v5 : Int32) (v6 : Int32) (v8 : Int32) (v9 : Int32) (v10 : Int32) (v12 : Int32) (k107 : Int32 → Int32 → Int32 → Int32 → Mem → Option (Int32 × Mem)) (k125 : Int32 → Int32 → Int32 → Int32 → Int32 → Mem → Option (Int32 × Mem)) (hk107 : ∀ (k n : Nat) (u7 : Int32) (u8 : Int32) (u9 : Int32) (u10 : Int32) (M : Mem), k ≤ B107 → n ≤ 6 * k → k107 u7 u8 u9 u10 M = some (r, M') → V X G Z M k n (QN X G (QcI G Z r M') 359 2154) 107 [(0, .ref (Z.1 0)), (1, .ref (Z.1 400)), (2, .ref (G.2.2.2 3)), (3, .int v3), (5, .int v5), (6, .int v6), (7, .int u7), (8, .int u8), (9, .int u9), (10, .int u10)] []) (hk125 : ∀ (k n : Nat) (u7 : Int32) (u8 : Int32) (u9 : Int32) (u11 : Int32) (u12 : Int32) (M : Mem), k ≤ B125 → n ≤ 6 * k → k125 u7 u8 u9 u11 u12 M = some (r, M') → V X G Z M k n (QN X G (QcI G Z r M') 359 2154) 125 [(0, .ref (Z.1 0)), (1, .ref (Z.1 400)), (2, .ref (G.2.2.2 3)), (3, .int v3), (5, .int v5), (6, .int v6), (7, .int u7), (8, .int u8), (9, .int u9), (10, .int v10), (11, .int u11), (12, .int u12)] []) (hB107 : B107 ≤ 359) (hB125 : B125 ≤ 359) (s0 : Int32) (M : Mem) (hb125 : k + 0 ≤ B125) (hn : n ≤ 6 * k) (hf : f_L_told_b212 (scG G) (lnG G) v3 v5 v6 v8 v9 v10 v12 k107 k125 s0 M = some (r, M')) : V X G Z M k n (QN X G (QcI G Z r M') 359 2154) 212 [(0, .ref (Z.1 0)), (1, .ref (Z.1 400)), (2, .ref (G.2.2.2 3)), (3, .int v3), (5, .int v5), (6, .int v6), (8, .int v8), (9, .int v9), (10, .int v10), (12, .int v12)] [.int s0] := by
  unfold f_L_told_b212 at hf
  refine r_istore (L' := [(7, .int s0), (0, .ref (Z.1 0)), (1, .ref (Z.1 400)), (2, .ref (G.2.2.2 3)), (3, .int v3), (5, .int v5), (6, .int v6), (8, .int v8), (9, .int v9), (10, .int v10), (12, .int v12)]) hC dL_told_212 (by decide) rfl ?_
  refine r_iconst (v := 1) hC dL_told_214 rfl ?_
  refine r_istore (L' := [(11, .int 1), (7, .int s0), (0, .ref (Z.1 0)), (1, .ref (Z.1 400)), (2, .ref (G.2.2.2 3)), (3, .int v3), (5, .int v5), (6, .int v6), (8, .int v8), (9, .int v9), (10, .int v10), (12, .int v12)]) hC dL_told_215 (by decide) rfl ?_
  refine r_iinc (v := v8 + 1) (L' := [(8, .int (v8 + 1)), (11, .int 1), (7, .int s0), (0, .ref (Z.1 0)), (1, .ref (Z.1 400)), (2, .ref (G.2.2.2 3)), (3, .int v3), (5, .int v5), (6, .int v6), (9, .int v9), (10, .int v10), (12, .int v12)]) hC dL_told_217 8 rfl rfl (by decide) rfl ?_
  refine r_goto 351 hC dL_told_220 (by decide) ?_
  refine r_iinc (v := v12 + 1) (L' := [(12, .int (v12 + 1)), (8, .int (v8 + 1)), (11, .int 1), (7, .int s0), (0, .ref (Z.1 0)), (1, .ref (Z.1 400)), (2, .ref (G.2.2.2 3)), (3, .int v3), (5, .int v5), (6, .int v6), (9, .int v9), (10, .int v10)]) hC dL_told_351 11 rfl rfl (by decide) rfl ?_
  refine r_goto 125 hC dL_told_354 (by decide) ?_
  refine r_L [4, 5, 6, 7, 8, 9, 3, 1, 10, 11, 2, 0] rfl ?_
  exact hk125 _ _ _ _ _ _ _ _ (by omega) (by omega) hf
set_option maxRecDepth 20000 in
set_option maxHeartbeats 1000000 in
theorem w_L_told_b211 {X : XX} {G : GG} {Z : ZZ} {r : Int32} {M' : Mem} {B107 : Nat} {B125 : Nat} {k n : Nat} (hC : Cx X G RL cL_told (some .boolean) 9 359 2154 16) (hz : ZOk G Z) (hZ : ZM Z) (hzq : ZOk G (swZ Z)) (hZq : ZM (swZ Z)) (v3 : Int32) (v5 : Int32) (v6 : Int32) (v8 : Int32) (v9 : Int32) (v10 : Int32) (v12 : Int32) (k107 : Int32 → Int32 → Int32 → Int32 → Mem → Option (Int32 × Mem)) (k125 : Int32 → Int32 → Int32 → Int32 → Int32 → Mem → Option (Int32 × Mem)) (hk107 : ∀ (k n : Nat) (u7 : Int32) (u8 : Int32) (u9 : Int32) (u10 : Int32) (M : Mem), k ≤ B107 → n ≤ 6 * k → k107 u7 u8 u9 u10 M = some (r, M') → V X G Z M k n (QN X G (QcI G Z r M') 359 2154) 107 [(0, .ref (Z.1 0)), (1, .ref (Z.1 400)), (2, .ref (G.2.2.2 3)), (3, .int v3), (5, .int v5), (6, .int v6), (7, .int u7), (8, .int u8), (9, .int u9), (10, .int u10)] []) (hk125 : ∀ (k n : Nat) (u7 : Int32) (u8 : Int32) (u9 : Int32) (u11 : Int32) (u12 : Int32) (M : Mem), k ≤ B125 → n ≤ 6 * k → k125 u7 u8 u9 u11 u12 M = some (r, M') → V X G Z M k n (QN X G (QcI G Z r M') 359 2154) 125 [(0, .ref (Z.1 0)), (1, .ref (Z.1 400)), (2, .ref (G.2.2.2 3)), (3, .int v3), (5, .int v5), (6, .int v6), (7, .int u7), (8, .int u8), (9, .int u9), (10, .int v10), (11, .int u11), (12, .int u12)] []) (hB107 : B107 ≤ 359) (hB125 : B125 ≤ 359)  (M : Mem) (hb125 : k + 0 ≤ B125) (hn : n ≤ 6 * k) (hf : f_L_told_b211 (scG G) (lnG G) v3 v5 v6 v8 v9 v10 v12 k107 k125 M = some (r, M')) : V X G Z M k n (QN X G (QcI G Z r M') 359 2154) 211 [(0, .ref (Z.1 0)), (1, .ref (Z.1 400)), (2, .ref (G.2.2.2 3)), (3, .int v3), (5, .int v5), (6, .int v6), (8, .int v8), (9, .int v9), (10, .int v10), (12, .int v12)] [] := by
  unfold f_L_told_b211 at hf
  refine r_iconst (v := 0) hC dL_told_211 rfl ?_
  exact w_L_told_b212 hC hz hZ hzq hZq v3 v5 v6 v8 v9 v10 v12 k107 k125 hk107 hk125 (by omega) (by omega) 0 _ (by omega) (by omega) hf
set_option maxRecDepth 20000 in
set_option maxHeartbeats 1000000 in
theorem w_L_told_b254 {X : XX} {G : GG} {Z : ZZ} {r : Int32} {M' : Mem} {B107 : Nat} {B125 : Nat} {k n : Nat} (hC : Cx X G RL cL_told (some .boolean) 9 359 2154 16) (hz : ZOk G Z) (hZ : ZM Z) (hzq : ZOk G (swZ Z)) (hZq : ZM (swZ Z)) (v3 : Int32) (v5 : Int32) (v6 : Int32) (v8 : Int32) (v9 : Int32) (v10 : Int32) (v11 : Int32) (v12 : Int32) (k107 : Int32 → Int32 → Int32 → Int32 → Mem → Option (Int32 × Mem)) (k125 : Int32 → Int32 → Int32 → Int32 → Int32 → Mem → Option (Int32 × Mem)) (hk107 : ∀ (k n : Nat) (u7 : Int32) (u8 : Int32) (u9 : Int32) (u10 : Int32) (M : Mem), k ≤ B107 → n ≤ 6 * k → k107 u7 u8 u9 u10 M = some (r, M') → V X G Z M k n (QN X G (QcI G Z r M') 359 2154) 107 [(0, .ref (Z.1 0)), (1, .ref (Z.1 400)), (2, .ref (G.2.2.2 3)), (3, .int v3), (5, .int v5), (6, .int v6), (7, .int u7), (8, .int u8), (9, .int u9), (10, .int u10)] []) (hk125 : ∀ (k n : Nat) (u7 : Int32) (u8 : Int32) (u9 : Int32) (u11 : Int32) (u12 : Int32) (M : Mem), k ≤ B125 → n ≤ 6 * k → k125 u7 u8 u9 u11 u12 M = some (r, M') → V X G Z M k n (QN X G (QcI G Z r M') 359 2154) 125 [(0, .ref (Z.1 0)), (1, .ref (Z.1 400)), (2, .ref (G.2.2.2 3)), (3, .int v3), (5, .int v5), (6, .int v6), (7, .int u7), (8, .int u8), (9, .int u9), (10, .int v10), (11, .int u11), (12, .int u12)] []) (hB107 : B107 ≤ 359) (hB125 : B125 ≤ 359) (s0 : Int32) (M : Mem) (hb125 : k + 0 ≤ B125) (hn : n ≤ 6 * k) (hf : f_L_told_b254 (scG G) (lnG G) v3 v5 v6 v8 v9 v10 v11 v12 k107 k125 s0 M = some (r, M')) : V X G Z M k n (QN X G (QcI G Z r M') 359 2154) 254 [(0, .ref (Z.1 0)), (1, .ref (Z.1 400)), (2, .ref (G.2.2.2 3)), (3, .int v3), (5, .int v5), (6, .int v6), (8, .int v8), (9, .int v9), (10, .int v10), (11, .int v11), (12, .int v12)] [.int s0] := by
  unfold f_L_told_b254 at hf
  refine r_istore (L' := [(7, .int s0), (0, .ref (Z.1 0)), (1, .ref (Z.1 400)), (2, .ref (G.2.2.2 3)), (3, .int v3), (5, .int v5), (6, .int v6), (8, .int v8), (9, .int v9), (10, .int v10), (11, .int v11), (12, .int v12)]) hC dL_told_254 (by decide) rfl ?_
  refine r_iinc (v := v8 + 1) (L' := [(8, .int (v8 + 1)), (7, .int s0), (0, .ref (Z.1 0)), (1, .ref (Z.1 400)), (2, .ref (G.2.2.2 3)), (3, .int v3), (5, .int v5), (6, .int v6), (9, .int v9), (10, .int v10), (11, .int v11), (12, .int v12)]) hC dL_told_256 7 rfl rfl (by decide) rfl ?_
  refine r_goto 351 hC dL_told_259 (by decide) ?_
  refine r_iinc (v := v12 + 1) (L' := [(12, .int (v12 + 1)), (8, .int (v8 + 1)), (7, .int s0), (0, .ref (Z.1 0)), (1, .ref (Z.1 400)), (2, .ref (G.2.2.2 3)), (3, .int v3), (5, .int v5), (6, .int v6), (9, .int v9), (10, .int v10), (11, .int v11)]) hC dL_told_351 11 rfl rfl (by decide) rfl ?_
  refine r_goto 125 hC dL_told_354 (by decide) ?_
  refine r_L [3, 4, 5, 6, 7, 8, 2, 1, 9, 10, 11, 0] rfl ?_
  exact hk125 _ _ _ _ _ _ _ _ (by omega) (by omega) hf
set_option maxRecDepth 20000 in
set_option maxHeartbeats 1000000 in
theorem w_L_told_b253 {X : XX} {G : GG} {Z : ZZ} {r : Int32} {M' : Mem} {B107 : Nat} {B125 : Nat} {k n : Nat} (hC : Cx X G RL cL_told (some .boolean) 9 359 2154 16) (hz : ZOk G Z) (hZ : ZM Z) (hzq : ZOk G (swZ Z)) (hZq : ZM (swZ Z)) (v3 : Int32) (v5 : Int32) (v6 : Int32) (v8 : Int32) (v9 : Int32) (v10 : Int32) (v11 : Int32) (v12 : Int32) (k107 : Int32 → Int32 → Int32 → Int32 → Mem → Option (Int32 × Mem)) (k125 : Int32 → Int32 → Int32 → Int32 → Int32 → Mem → Option (Int32 × Mem)) (hk107 : ∀ (k n : Nat) (u7 : Int32) (u8 : Int32) (u9 : Int32) (u10 : Int32) (M : Mem), k ≤ B107 → n ≤ 6 * k → k107 u7 u8 u9 u10 M = some (r, M') → V X G Z M k n (QN X G (QcI G Z r M') 359 2154) 107 [(0, .ref (Z.1 0)), (1, .ref (Z.1 400)), (2, .ref (G.2.2.2 3)), (3, .int v3), (5, .int v5), (6, .int v6), (7, .int u7), (8, .int u8), (9, .int u9), (10, .int u10)] []) (hk125 : ∀ (k n : Nat) (u7 : Int32) (u8 : Int32) (u9 : Int32) (u11 : Int32) (u12 : Int32) (M : Mem), k ≤ B125 → n ≤ 6 * k → k125 u7 u8 u9 u11 u12 M = some (r, M') → V X G Z M k n (QN X G (QcI G Z r M') 359 2154) 125 [(0, .ref (Z.1 0)), (1, .ref (Z.1 400)), (2, .ref (G.2.2.2 3)), (3, .int v3), (5, .int v5), (6, .int v6), (7, .int u7), (8, .int u8), (9, .int u9), (10, .int v10), (11, .int u11), (12, .int u12)] []) (hB107 : B107 ≤ 359) (hB125 : B125 ≤ 359)  (M : Mem) (hb125 : k + 0 ≤ B125) (hn : n ≤ 6 * k) (hf : f_L_told_b253 (scG G) (lnG G) v3 v5 v6 v8 v9 v10 v11 v12 k107 k125 M = some (r, M')) : V X G Z M k n (QN X G (QcI G Z r M') 359 2154) 253 [(0, .ref (Z.1 0)), (1, .ref (Z.1 400)), (2, .ref (G.2.2.2 3)), (3, .int v3), (5, .int v5), (6, .int v6), (8, .int v8), (9, .int v9), (10, .int v10), (11, .int v11), (12, .int v12)] [] := by
  unfold f_L_told_b253 at hf
  refine r_iconst (v := 0) hC dL_told_253 rfl ?_
  exact w_L_told_b254 hC hz hZ hzq hZq v3 v5 v6 v8 v9 v10 v11 v12 k107 k125 hk107 hk125 (by omega) (by omega) 0 _ (by omega) (by omega) hf
set_option maxRecDepth 20000 in
set_option maxHeartbeats 1000000 in
theorem w_L_told_b340 {X : XX} {G : GG} {Z : ZZ} {r : Int32} {M' : Mem} {B107 : Nat} {B125 : Nat} {k n : Nat} (hC : Cx X G RL cL_told (some .boolean) 9 359 2154 16) (hz : ZOk G Z) (hZ : ZM Z) (hzq : ZOk G (swZ Z)) (hZq : ZM (swZ Z)) (v3 : Int32) (v5 : Int32) (v6 : Int32) (v8 : Int32) (v9 : Int32) (v10 : Int32) (v12 : Int32) (k107 : Int32 → Int32 → Int32 → Int32 → Mem → Option (Int32 × Mem)) (k125 : Int32 → Int32 → Int32 → Int32 → Int32 → Mem → Option (Int32 × Mem)) (hk107 : ∀ (k n : Nat) (u7 : Int32) (u8 : Int32) (u9 : Int32) (u10 : Int32) (M : Mem), k ≤ B107 → n ≤ 6 * k → k107 u7 u8 u9 u10 M = some (r, M') → V X G Z M k n (QN X G (QcI G Z r M') 359 2154) 107 [(0, .ref (Z.1 0)), (1, .ref (Z.1 400)), (2, .ref (G.2.2.2 3)), (3, .int v3), (5, .int v5), (6, .int v6), (7, .int u7), (8, .int u8), (9, .int u9), (10, .int u10)] []) (hk125 : ∀ (k n : Nat) (u7 : Int32) (u8 : Int32) (u9 : Int32) (u11 : Int32) (u12 : Int32) (M : Mem), k ≤ B125 → n ≤ 6 * k → k125 u7 u8 u9 u11 u12 M = some (r, M') → V X G Z M k n (QN X G (QcI G Z r M') 359 2154) 125 [(0, .ref (Z.1 0)), (1, .ref (Z.1 400)), (2, .ref (G.2.2.2 3)), (3, .int v3), (5, .int v5), (6, .int v6), (7, .int u7), (8, .int u8), (9, .int u9), (10, .int v10), (11, .int u11), (12, .int u12)] []) (hB107 : B107 ≤ 359) (hB125 : B125 ≤ 359) (s0 : Int32) (M : Mem) (hb125 : k + 0 ≤ B125) (hn : n ≤ 6 * k) (hf : f_L_told_b340 (scG G) (lnG G) v3 v5 v6 v8 v9 v10 v12 k107 k125 s0 M = some (r, M')) : V X G Z M k n (QN X G (QcI G Z r M') 359 2154) 340 [(0, .ref (Z.1 0)), (1, .ref (Z.1 400)), (2, .ref (G.2.2.2 3)), (3, .int v3), (5, .int v5), (6, .int v6), (8, .int v8), (9, .int v9), (10, .int v10), (12, .int v12)] [.int s0] := by
  unfold f_L_told_b340 at hf
  refine r_istore (L' := [(7, .int s0), (0, .ref (Z.1 0)), (1, .ref (Z.1 400)), (2, .ref (G.2.2.2 3)), (3, .int v3), (5, .int v5), (6, .int v6), (8, .int v8), (9, .int v9), (10, .int v10), (12, .int v12)]) hC dL_told_340 (by decide) rfl ?_
  refine r_iconst (v := 0) hC dL_told_342 rfl ?_
  refine r_istore (L' := [(11, .int 0), (7, .int s0), (0, .ref (Z.1 0)), (1, .ref (Z.1 400)), (2, .ref (G.2.2.2 3)), (3, .int v3), (5, .int v5), (6, .int v6), (8, .int v8), (9, .int v9), (10, .int v10), (12, .int v12)]) hC dL_told_343 (by decide) rfl ?_
  refine r_iinc (v := v9 + 1) (L' := [(9, .int (v9 + 1)), (11, .int 0), (7, .int s0), (0, .ref (Z.1 0)), (1, .ref (Z.1 400)), (2, .ref (G.2.2.2 3)), (3, .int v3), (5, .int v5), (6, .int v6), (8, .int v8), (10, .int v10), (12, .int v12)]) hC dL_told_345 9 rfl rfl (by decide) rfl ?_
  refine r_iinc (v := v8 + 2) (L' := [(8, .int (v8 + 2)), (9, .int (v9 + 1)), (11, .int 0), (7, .int s0), (0, .ref (Z.1 0)), (1, .ref (Z.1 400)), (2, .ref (G.2.2.2 3)), (3, .int v3), (5, .int v5), (6, .int v6), (10, .int v10), (12, .int v12)]) hC dL_told_348 9 rfl rfl (by decide) rfl ?_
  refine r_iinc (v := v12 + 1) (L' := [(12, .int (v12 + 1)), (8, .int (v8 + 2)), (9, .int (v9 + 1)), (11, .int 0), (7, .int s0), (0, .ref (Z.1 0)), (1, .ref (Z.1 400)), (2, .ref (G.2.2.2 3)), (3, .int v3), (5, .int v5), (6, .int v6), (10, .int v10)]) hC dL_told_351 11 rfl rfl (by decide) rfl ?_
  refine r_goto 125 hC dL_told_354 (by decide) ?_
  refine r_L [5, 6, 7, 8, 9, 10, 4, 1, 2, 11, 3, 0] rfl ?_
  exact hk125 _ _ _ _ _ _ _ _ (by omega) (by omega) hf
set_option maxRecDepth 20000 in
set_option maxHeartbeats 1000000 in
theorem w_L_told_b339 {X : XX} {G : GG} {Z : ZZ} {r : Int32} {M' : Mem} {B107 : Nat} {B125 : Nat} {k n : Nat} (hC : Cx X G RL cL_told (some .boolean) 9 359 2154 16) (hz : ZOk G Z) (hZ : ZM Z) (hzq : ZOk G (swZ Z)) (hZq : ZM (swZ Z)) (v3 : Int32) (v5 : Int32) (v6 : Int32) (v8 : Int32) (v9 : Int32) (v10 : Int32) (v12 : Int32) (k107 : Int32 → Int32 → Int32 → Int32 → Mem → Option (Int32 × Mem)) (k125 : Int32 → Int32 → Int32 → Int32 → Int32 → Mem → Option (Int32 × Mem)) (hk107 : ∀ (k n : Nat) (u7 : Int32) (u8 : Int32) (u9 : Int32) (u10 : Int32) (M : Mem), k ≤ B107 → n ≤ 6 * k → k107 u7 u8 u9 u10 M = some (r, M') → V X G Z M k n (QN X G (QcI G Z r M') 359 2154) 107 [(0, .ref (Z.1 0)), (1, .ref (Z.1 400)), (2, .ref (G.2.2.2 3)), (3, .int v3), (5, .int v5), (6, .int v6), (7, .int u7), (8, .int u8), (9, .int u9), (10, .int u10)] []) (hk125 : ∀ (k n : Nat) (u7 : Int32) (u8 : Int32) (u9 : Int32) (u11 : Int32) (u12 : Int32) (M : Mem), k ≤ B125 → n ≤ 6 * k → k125 u7 u8 u9 u11 u12 M = some (r, M') → V X G Z M k n (QN X G (QcI G Z r M') 359 2154) 125 [(0, .ref (Z.1 0)), (1, .ref (Z.1 400)), (2, .ref (G.2.2.2 3)), (3, .int v3), (5, .int v5), (6, .int v6), (7, .int u7), (8, .int u8), (9, .int u9), (10, .int v10), (11, .int u11), (12, .int u12)] []) (hB107 : B107 ≤ 359) (hB125 : B125 ≤ 359)  (M : Mem) (hb125 : k + 0 ≤ B125) (hn : n ≤ 6 * k) (hf : f_L_told_b339 (scG G) (lnG G) v3 v5 v6 v8 v9 v10 v12 k107 k125 M = some (r, M')) : V X G Z M k n (QN X G (QcI G Z r M') 359 2154) 339 [(0, .ref (Z.1 0)), (1, .ref (Z.1 400)), (2, .ref (G.2.2.2 3)), (3, .int v3), (5, .int v5), (6, .int v6), (8, .int v8), (9, .int v9), (10, .int v10), (12, .int v12)] [] := by
  unfold f_L_told_b339 at hf
  refine r_iconst (v := 0) hC dL_told_339 rfl ?_
  exact w_L_told_b340 hC hz hZ hzq hZq v3 v5 v6 v8 v9 v10 v12 k107 k125 hk107 hk125 (by omega) (by omega) 0 _ (by omega) (by omega) hf
set_option maxRecDepth 20000 in
set_option maxHeartbeats 1000000 in
theorem w_L_told_b284 {X : XX} {G : GG} {Z : ZZ} {r : Int32} {M' : Mem} {B107 : Nat} {B125 : Nat} {k n : Nat} (hC : Cx X G RL cL_told (some .boolean) 9 359 2154 16) (hz : ZOk G Z) (hZ : ZM Z) (hzq : ZOk G (swZ Z)) (hZq : ZM (swZ Z)) (v3 : Int32) (v5 : Int32) (v6 : Int32) (v7 : Int32) (v8 : Int32) (v9 : Int32) (v10 : Int32) (v12 : Int32) (k107 : Int32 → Int32 → Int32 → Int32 → Mem → Option (Int32 × Mem)) (k125 : Int32 → Int32 → Int32 → Int32 → Int32 → Mem → Option (Int32 × Mem)) (hk107 : ∀ (k n : Nat) (u7 : Int32) (u8 : Int32) (u9 : Int32) (u10 : Int32) (M : Mem), k ≤ B107 → n ≤ 6 * k → k107 u7 u8 u9 u10 M = some (r, M') → V X G Z M k n (QN X G (QcI G Z r M') 359 2154) 107 [(0, .ref (Z.1 0)), (1, .ref (Z.1 400)), (2, .ref (G.2.2.2 3)), (3, .int v3), (5, .int v5), (6, .int v6), (7, .int u7), (8, .int u8), (9, .int u9), (10, .int u10)] []) (hk125 : ∀ (k n : Nat) (u7 : Int32) (u8 : Int32) (u9 : Int32) (u11 : Int32) (u12 : Int32) (M : Mem), k ≤ B125 → n ≤ 6 * k → k125 u7 u8 u9 u11 u12 M = some (r, M') → V X G Z M k n (QN X G (QcI G Z r M') 359 2154) 125 [(0, .ref (Z.1 0)), (1, .ref (Z.1 400)), (2, .ref (G.2.2.2 3)), (3, .int v3), (5, .int v5), (6, .int v6), (7, .int u7), (8, .int u8), (9, .int u9), (10, .int v10), (11, .int u11), (12, .int u12)] []) (hB107 : B107 ≤ 359) (hB125 : B125 ≤ 359) (s0 : Int32) (s1 : Int32) (M : Mem) (hb125 : k + 4 ≤ B125) (hn : n ≤ 6 * k) (hf : f_L_told_b284 (scG G) (lnG G) v3 v5 v6 v7 v8 v9 v10 v12 k107 k125 s0 s1 M = some (r, M')) : V X G Z M k n (QN X G (QcI G Z r M') 359 2154) 284 [(0, .ref (Z.1 0)), (1, .ref (Z.1 400)), (2, .ref (G.2.2.2 3)), (3, .int v3), (5, .int v5), (6, .int v6), (7, .int v7), (8, .int v8), (9, .int v9), (10, .int v10), (12, .int v12)] [.int s0, .int s1] := by
  unfold f_L_told_b284 at hf
  have hne := if_K hf
  have hf := if_V hf
  refine r_irem hC dL_told_284 hne ?_
  refine r_istore (L' := [(15, .int (s1 - s1 / s0 * s0)), (0, .ref (Z.1 0)), (1, .ref (Z.1 400)), (2, .ref (G.2.2.2 3)), (3, .int v3), (5, .int v5), (6, .int v6), (7, .int v7), (8, .int v8), (9, .int v9), (10, .int v10), (12, .int v12)]) hC dL_told_285 (by decide) rfl ?_
  refine r_iload hC dL_told_287 7 rfl ?_
  refine r_if_eq 339 hC dL_told_289 (by decide) (fun h => ?_) (fun h => ?_)
  · have hf := if_T hf h
    refine r_L [1, 2, 3, 4, 5, 6, 8, 9, 10, 11] rfl ?_
    exact w_L_told_b339 hC hz hZ hzq hZq v3 v5 v6 v8 v9 v10 v12 k107 k125 hk107 hk125 (by omega) (by omega)  _ (by omega) (by omega) hf
  · have hf := if_F hf h
    refine r_aload_n hC dL_told_292 1 rfl ?_
    refine r_aload_n hC dL_told_293 2 rfl ?_
    refine r_bipush (v := 48) hC dL_told_294 rfl ?_
    refine r_iload hC dL_told_296 0 rfl ?_
    refine r_bipush (v := 10) hC dL_told_298 rfl ?_
    refine r_idiv hC dL_told_300 (by decide) ?_
    refine r_iadd hC dL_told_301 ?_
    refine r_ccall [] (fun r M1 h => c_L_put (cx_st hC) hz hZ hzq hZq (48 + ((s1 - s1 / s0 * s0) / 10)) _ r M1 h) hf cs_L_104 hC rfl rfl (by decide) (by decide) (Nat.le_of_ble_eq_true rfl) (by omega) (by omega) dL_told_302 (fun x49 M50 hf => ?_)
    refine r_if_eq 339 hC dL_told_305 (by decide) (fun h => ?_) (fun h => ?_)
    · have hf := if_T hf h
      refine r_L [1, 2, 3, 4, 5, 6, 8, 9, 10, 11] rfl ?_
      exact w_L_told_b339 hC hz hZ hzq hZq v3 v5 v6 v8 v9 v10 v12 k107 k125 hk107 hk125 (by omega) (by omega)  _ (by omega) (by omega) hf
    · have hf := if_F hf h
      refine r_aload_n hC dL_told_308 1 rfl ?_
      refine r_callVI [] (fun r M1 h => c_X5_errorPosition (cx_st hC) hz hZ  _ r M1 h) hf cs_L_108 hC (z_1 hZ 0 (by decide) rfl) (q0 := (RX5, TX5, 7)) rfl rfl [] rfl rfl rfl (by decide) (by decide) (Nat.le_of_ble_eq_true rfl) (by omega) (by omega) dL_told_309 (fun x51 M52 hf => ?_)
      refine r_iload hC dL_told_312 8 rfl ?_
      refine r_iconst (v := 1) hC dL_told_314 rfl ?_
      refine r_iadd hC dL_told_315 ?_
      refine r_icmp_ne 339 hC dL_told_316 (by decide) (fun h => ?_) (fun h => ?_)
      · have hf := if_F hf h
        refine r_L [1, 2, 3, 4, 5, 6, 8, 9, 10, 11] rfl ?_
        exact w_L_told_b339 hC hz hZ hzq hZq v3 v5 v6 v8 v9 v10 v12 k107 k125 hk107 hk125 (by omega) (by omega)  _ (by omega) (by omega) hf
      · have hf := if_T hf h
        refine r_aload_n hC dL_told_319 1 rfl ?_
        refine r_aload_n hC dL_told_320 2 rfl ?_
        refine r_bipush (v := 48) hC dL_told_321 rfl ?_
        refine r_iload hC dL_told_323 0 rfl ?_
        refine r_bipush (v := 10) hC dL_told_325 rfl ?_
        refine r_irem hC dL_told_327 (by decide) ?_
        refine r_iadd hC dL_told_328 ?_
        refine r_ccall [] (fun r M1 h => c_L_put (cx_st hC) hz hZ hzq hZq (48 + ((s1 - s1 / s0 * s0) - (s1 - s1 / s0 * s0) / 10 * 10)) _ r M1 h) hf cs_L_104 hC rfl rfl (by decide) (by decide) (Nat.le_of_ble_eq_true rfl) (by omega) (by omega) dL_told_329 (fun x53 M54 hf => ?_)
        refine r_if_eq 339 hC dL_told_332 (by decide) (fun h => ?_) (fun h => ?_)
        · have hf := if_T hf h
          refine r_L [1, 2, 3, 4, 5, 6, 8, 9, 10, 11] rfl ?_
          exact w_L_told_b339 hC hz hZ hzq hZq v3 v5 v6 v8 v9 v10 v12 k107 k125 hk107 hk125 (by omega) (by omega)  _ (by omega) (by omega) hf
        · have hf := if_F hf h
          refine r_iconst (v := 1) hC dL_told_335 rfl ?_
          refine r_goto 340 hC dL_told_336 (by decide) ?_
          refine r_L [1, 2, 3, 4, 5, 6, 8, 9, 10, 11] rfl ?_
          exact w_L_told_b340 hC hz hZ hzq hZq v3 v5 v6 v8 v9 v10 v12 k107 k125 hk107 hk125 (by omega) (by omega) 1 _ (by omega) (by omega) hf
set_option maxRecDepth 20000 in
set_option maxHeartbeats 1000000 in
theorem w_L_told_b262 {X : XX} {G : GG} {Z : ZZ} {r : Int32} {M' : Mem} {B107 : Nat} {B125 : Nat} {k n : Nat} (hC : Cx X G RL cL_told (some .boolean) 9 359 2154 16) (hz : ZOk G Z) (hZ : ZM Z) (hzq : ZOk G (swZ Z)) (hZq : ZM (swZ Z)) (v3 : Int32) (v5 : Int32) (v6 : Int32) (v7 : Int32) (v8 : Int32) (v9 : Int32) (v10 : Int32) (v12 : Int32) (v13 : Int32) (k107 : Int32 → Int32 → Int32 → Int32 → Mem → Option (Int32 × Mem)) (k125 : Int32 → Int32 → Int32 → Int32 → Int32 → Mem → Option (Int32 × Mem)) (hk107 : ∀ (k n : Nat) (u7 : Int32) (u8 : Int32) (u9 : Int32) (u10 : Int32) (M : Mem), k ≤ B107 → n ≤ 6 * k → k107 u7 u8 u9 u10 M = some (r, M') → V X G Z M k n (QN X G (QcI G Z r M') 359 2154) 107 [(0, .ref (Z.1 0)), (1, .ref (Z.1 400)), (2, .ref (G.2.2.2 3)), (3, .int v3), (5, .int v5), (6, .int v6), (7, .int u7), (8, .int u8), (9, .int u9), (10, .int u10)] []) (hk125 : ∀ (k n : Nat) (u7 : Int32) (u8 : Int32) (u9 : Int32) (u11 : Int32) (u12 : Int32) (M : Mem), k ≤ B125 → n ≤ 6 * k → k125 u7 u8 u9 u11 u12 M = some (r, M') → V X G Z M k n (QN X G (QcI G Z r M') 359 2154) 125 [(0, .ref (Z.1 0)), (1, .ref (Z.1 400)), (2, .ref (G.2.2.2 3)), (3, .int v3), (5, .int v5), (6, .int v6), (7, .int u7), (8, .int u8), (9, .int u9), (10, .int v10), (11, .int u11), (12, .int u12)] []) (hB107 : B107 ≤ 359) (hB125 : B125 ≤ 359)  (M : Mem) (hb125 : k + 4 ≤ B125) (hn : n ≤ 6 * k) (hf : f_L_told_b262 (scG G) (lnG G) v3 v5 v6 v7 v8 v9 v10 v12 v13 k107 k125 M = some (r, M')) : V X G Z M k n (QN X G (QcI G Z r M') 359 2154) 262 [(0, .ref (Z.1 0)), (1, .ref (Z.1 400)), (2, .ref (G.2.2.2 3)), (3, .int v3), (5, .int v5), (6, .int v6), (7, .int v7), (8, .int v8), (9, .int v9), (10, .int v10), (12, .int v12), (13, .int v13)] [] := by
  unfold f_L_told_b262 at hf
  refine r_iload hC dL_told_262 11 rfl ?_
  refine r_bipush (v := 16) hC dL_told_264 rfl ?_
  refine r_idiv hC dL_told_266 (by decide) ?_
  refine r_iload hC dL_told_267 11 rfl ?_
  refine r_bipush (v := 8) hC dL_told_269 rfl ?_
  refine r_idiv hC dL_told_271 (by decide) ?_
  refine r_iconst (v := 2) hC dL_told_272 rfl ?_
  refine r_irem hC dL_told_273 (by decide) ?_
  refine r_if_ne 282 hC dL_told_274 (by decide) (fun h => ?_) (fun h => ?_)
  · have hf := if_F hf h
    refine r_bipush (v := 25) hC dL_told_282 rfl ?_
    refine r_L [0, 1, 2, 3, 4, 5, 6, 7, 8, 9, 10] rfl ?_
    exact w_L_told_b284 hC hz hZ hzq hZq v3 v5 v6 v7 v8 v9 v10 v12 k107 k125 hk107 hk125 (by omega) (by omega) 25 (v13 / 16) _ (by omega) (by omega) hf
  · have hf := if_T hf h
    refine r_bipush (v := 61) hC dL_told_277 rfl ?_
    refine r_goto 284 hC dL_told_279 (by decide) ?_
    refine r_L [0, 1, 2, 3, 4, 5, 6, 7, 8, 9, 10] rfl ?_
    exact w_L_told_b284 hC hz hZ hzq hZq v3 v5 v6 v7 v8 v9 v10 v12 k107 k125 hk107 hk125 (by omega) (by omega) 61 (v13 / 16) _ (by omega) (by omega) hf
set_option maxRecDepth 20000 in
set_option maxHeartbeats 1000000 in
theorem w_L_told_b185 {X : XX} {G : GG} {Z : ZZ} {r : Int32} {M' : Mem} {B107 : Nat} {B125 : Nat} {k n : Nat} (hC : Cx X G RL cL_told (some .boolean) 9 359 2154 16) (hz : ZOk G Z) (hZ : ZM Z) (hzq : ZOk G (swZ Z)) (hZq : ZM (swZ Z)) (v3 : Int32) (v5 : Int32) (v6 : Int32) (v8 : Int32) (v9 : Int32) (v10 : Int32) (v11 : Int32) (v12 : Int32) (v13 : Int32) (v14 : Int32) (k107 : Int32 → Int32 → Int32 → Int32 → Mem → Option (Int32 × Mem)) (k125 : Int32 → Int32 → Int32 → Int32 → Int32 → Mem → Option (Int32 × Mem)) (hk107 : ∀ (k n : Nat) (u7 : Int32) (u8 : Int32) (u9 : Int32) (u10 : Int32) (M : Mem), k ≤ B107 → n ≤ 6 * k → k107 u7 u8 u9 u10 M = some (r, M') → V X G Z M k n (QN X G (QcI G Z r M') 359 2154) 107 [(0, .ref (Z.1 0)), (1, .ref (Z.1 400)), (2, .ref (G.2.2.2 3)), (3, .int v3), (5, .int v5), (6, .int v6), (7, .int u7), (8, .int u8), (9, .int u9), (10, .int u10)] []) (hk125 : ∀ (k n : Nat) (u7 : Int32) (u8 : Int32) (u9 : Int32) (u11 : Int32) (u12 : Int32) (M : Mem), k ≤ B125 → n ≤ 6 * k → k125 u7 u8 u9 u11 u12 M = some (r, M') → V X G Z M k n (QN X G (QcI G Z r M') 359 2154) 125 [(0, .ref (Z.1 0)), (1, .ref (Z.1 400)), (2, .ref (G.2.2.2 3)), (3, .int v3), (5, .int v5), (6, .int v6), (7, .int u7), (8, .int u8), (9, .int u9), (10, .int v10), (11, .int u11), (12, .int u12)] []) (hB107 : B107 ≤ 359) (hB125 : B125 ≤ 359) (s0 : Int32) (M : Mem) (hb125 : k + 4 ≤ B125) (hn : n ≤ 6 * k) (hf : f_L_told_b185 (scG G) (lnG G) v3 v5 v6 v8 v9 v10 v11 v12 v13 v14 k107 k125 s0 M = some (r, M')) : V X G Z M k n (QN X G (QcI G Z r M') 359 2154) 185 [(0, .ref (Z.1 0)), (1, .ref (Z.1 400)), (2, .ref (G.2.2.2 3)), (3, .int v3), (5, .int v5), (6, .int v6), (8, .int v8), (9, .int v9), (10, .int v10), (11, .int v11), (12, .int v12), (13, .int v13), (14, .int v14)] [.int s0] := by
  unfold f_L_told_b185 at hf
  refine r_istore (L' := [(7, .int s0), (0, .ref (Z.1 0)), (1, .ref (Z.1 400)), (2, .ref (G.2.2.2 3)), (3, .int v3), (5, .int v5), (6, .int v6), (8, .int v8), (9, .int v9), (10, .int v10), (11, .int v11), (12, .int v12), (13, .int v13), (14, .int v14)]) hC dL_told_185 (by decide) rfl ?_
  refine r_iload hC dL_told_187 13 rfl ?_
  refine r_if_ne 223 hC dL_told_189 (by decide) (fun h => ?_) (fun h => ?_)
  · have hf := if_F hf h
    refine r_iload hC dL_told_223 13 rfl ?_
    refine r_iconst (v := 4) hC dL_told_225 rfl ?_
    refine r_icmp_ge 262 hC dL_told_226 (by decide) (fun h => ?_) (fun h => ?_)
    · have hf := if_T hf h
      refine r_L [1, 2, 3, 4, 5, 6, 0, 7, 8, 9, 11, 12] rfl ?_
      exact w_L_told_b262 hC hz hZ hzq hZq v3 v5 v6 s0 v8 v9 v10 v12 v13 k107 k125 hk107 hk125 (by omega) (by omega)  _ (by omega) (by omega) hf
    · have hf := if_F hf h
      refine r_iload hC dL_told_229 10 rfl ?_
      refine r_if_ne 262 hC dL_told_231 (by decide) (fun h => ?_) (fun h => ?_)
      · have hf := if_F hf h
        refine r_L [1, 2, 3, 4, 5, 6, 0, 7, 8, 9, 11, 12] rfl ?_
        exact w_L_told_b262 hC hz hZ hzq hZq v3 v5 v6 s0 v8 v9 v10 v12 v13 k107 k125 hk107 hk125 (by omega) (by omega)  _ (by omega) (by omega) hf
      · have hf := if_T hf h
        refine r_iload hC dL_told_234 0 rfl ?_
        refine r_if_eq 253 hC dL_told_236 (by decide) (fun h => ?_) (fun h => ?_)
        · have hf := if_T hf h
          refine r_L [1, 2, 3, 4, 5, 6, 7, 8, 9, 10, 11] rfl ?_
          exact w_L_told_b253 hC hz hZ hzq hZq v3 v5 v6 v8 v9 v10 v11 v12 k107 k125 hk107 hk125 (by omega) (by omega)  _ (by omega) (by omega) hf
        · have hf := if_F hf h
          refine r_aload_n hC dL_told_239 1 rfl ?_
          refine r_aload_n hC dL_told_240 2 rfl ?_
          refine r_bipush (v := 61) hC dL_told_241 rfl ?_
          refine r_ccall [] (fun r M1 h => c_L_put (cx_st hC) hz hZ hzq hZq 61 _ r M1 h) hf cs_L_104 hC rfl rfl (by decide) (by decide) (Nat.le_of_ble_eq_true rfl) (by omega) (by omega) dL_told_243 (fun x45 M46 hf => ?_)
          refine r_if_eq 253 hC dL_told_246 (by decide) (fun h => ?_) (fun h => ?_)
          · have hf := if_T hf h
            refine r_L [1, 2, 3, 4, 5, 6, 7, 8, 9, 10, 11] rfl ?_
            exact w_L_told_b253 hC hz hZ hzq hZq v3 v5 v6 v8 v9 v10 v11 v12 k107 k125 hk107 hk125 (by omega) (by omega)  _ (by omega) (by omega) hf
          · have hf := if_F hf h
            refine r_iconst (v := 1) hC dL_told_249 rfl ?_
            refine r_goto 254 hC dL_told_250 (by decide) ?_
            refine r_L [1, 2, 3, 4, 5, 6, 7, 8, 9, 10, 11] rfl ?_
            exact w_L_told_b254 hC hz hZ hzq hZq v3 v5 v6 v8 v9 v10 v11 v12 k107 k125 hk107 hk125 (by omega) (by omega) 1 _ (by omega) (by omega) hf
  · have hf := if_T hf h
    refine r_iload hC dL_told_192 0 rfl ?_
    refine r_if_eq 211 hC dL_told_194 (by decide) (fun h => ?_) (fun h => ?_)
    · have hf := if_T hf h
      refine r_L [1, 2, 3, 4, 5, 6, 7, 8, 9, 11] rfl ?_
      exact w_L_told_b211 hC hz hZ hzq hZq v3 v5 v6 v8 v9 v10 v12 k107 k125 hk107 hk125 (by omega) (by omega)  _ (by omega) (by omega) hf
    · have hf := if_F hf h
      refine r_aload_n hC dL_told_197 1 rfl ?_
      refine r_aload_n hC dL_told_198 2 rfl ?_
      refine r_bipush (v := 45) hC dL_told_199 rfl ?_
      refine r_ccall [] (fun r M1 h => c_L_put (cx_st hC) hz hZ hzq hZq 45 _ r M1 h) hf cs_L_104 hC rfl rfl (by decide) (by decide) (Nat.le_of_ble_eq_true rfl) (by omega) (by omega) dL_told_201 (fun x47 M48 hf => ?_)
      refine r_if_eq 211 hC dL_told_204 (by decide) (fun h => ?_) (fun h => ?_)
      · have hf := if_T hf h
        refine r_L [1, 2, 3, 4, 5, 6, 7, 8, 9, 11] rfl ?_
        exact w_L_told_b211 hC hz hZ hzq hZq v3 v5 v6 v8 v9 v10 v12 k107 k125 hk107 hk125 (by omega) (by omega)  _ (by omega) (by omega) hf
      · have hf := if_F hf h
        refine r_iconst (v := 1) hC dL_told_207 rfl ?_
        refine r_goto 212 hC dL_told_208 (by decide) ?_
        refine r_L [1, 2, 3, 4, 5, 6, 7, 8, 9, 11] rfl ?_
        exact w_L_told_b212 hC hz hZ hzq hZq v3 v5 v6 v8 v9 v10 v12 k107 k125 hk107 hk125 (by omega) (by omega) 1 _ (by omega) (by omega) hf
set_option maxRecDepth 20000 in
set_option maxHeartbeats 1000000 in
theorem w_L_told_b125 {X : XX} {G : GG} {Z : ZZ} {r : Int32} {M' : Mem} {B107 : Nat} {B125 : Nat} {k n : Nat} (hC : Cx X G RL cL_told (some .boolean) 9 359 2154 16) (hz : ZOk G Z) (hZ : ZM Z) (hzq : ZOk G (swZ Z)) (hZq : ZM (swZ Z)) (v3 : Int32) (v5 : Int32) (v6 : Int32) (v10 : Int32) (k107 : Int32 → Int32 → Int32 → Int32 → Mem → Option (Int32 × Mem)) (hk107 : ∀ (k n : Nat) (u7 : Int32) (u8 : Int32) (u9 : Int32) (u10 : Int32) (M : Mem), k ≤ B107 → n ≤ 6 * k → k107 u7 u8 u9 u10 M = some (r, M') → V X G Z M k n (QN X G (QcI G Z r M') 359 2154) 107 [(0, .ref (Z.1 0)), (1, .ref (Z.1 400)), (2, .ref (G.2.2.2 3)), (3, .int v3), (5, .int v5), (6, .int v6), (7, .int u7), (8, .int u8), (9, .int u9), (10, .int u10)] []) (hB107 : B107 ≤ 359) (k125 : Int32 → Int32 → Int32 → Int32 → Int32 → Mem → Option (Int32 × Mem)) (hk125 : ∀ (k n : Nat) (u7 : Int32) (u8 : Int32) (u9 : Int32) (u11 : Int32) (u12 : Int32) (M : Mem), k ≤ B125 → n ≤ 6 * k → k125 u7 u8 u9 u11 u12 M = some (r, M') → V X G Z M k n (QN X G (QcI G Z r M') 359 2154) 125 [(0, .ref (Z.1 0)), (1, .ref (Z.1 400)), (2, .ref (G.2.2.2 3)), (3, .int v3), (5, .int v5), (6, .int v6), (7, .int u7), (8, .int u8), (9, .int u9), (10, .int v10), (11, .int u11), (12, .int u12)] []) (hB125 : B125 ≤ 359) (v7 : Int32) (v8 : Int32) (v9 : Int32) (v11 : Int32) (v12 : Int32) (M : Mem) (hb107 : k + 0 ≤ B107) (hn : n ≤ 6 * k) (hb125 : k + 4 ≤ B125) (hf : f_L_told_b125 (scG G) (lnG G) v3 v5 v6 v10 k107 k125 v7 v8 v9 v11 v12 M = some (r, M')) : V X G Z M k n (QN X G (QcI G Z r M') 359 2154) 125 [(0, .ref (Z.1 0)), (1, .ref (Z.1 400)), (2, .ref (G.2.2.2 3)), (3, .int v3), (5, .int v5), (6, .int v6), (7, .int v7), (8, .int v8), (9, .int v9), (10, .int v10), (11, .int v11), (12, .int v12)] [] := by
  unfold f_L_told_b125 at hf
  refine r_iload hC dL_told_125 11 rfl ?_
  refine r_iload hC dL_told_127 5 rfl ?_
  refine r_icmp_ge 357 hC dL_told_129 (by decide) (fun h => ?_) (fun h => ?_)
  · have hf := if_T hf h
    refine r_iinc (v := v10 + 1) (L' := [(10, .int (v10 + 1)), (0, .ref (Z.1 0)), (1, .ref (Z.1 400)), (2, .ref (G.2.2.2 3)), (3, .int v3), (5, .int v5), (6, .int v6), (7, .int v7), (8, .int v8), (9, .int v9), (11, .int v11), (12, .int v12)]) hC dL_told_357 9 rfl rfl (by decide) rfl ?_
    refine r_goto 107 hC dL_told_360 (by decide) ?_
    refine r_L [1, 2, 3, 4, 5, 6, 7, 8, 9, 0] rfl ?_
    exact hk107 _ _ _ _ _ _ _ (by omega) (by omega) hf
  · have hf := if_F hf h
    refine r_iload hC dL_told_132 6 rfl ?_
    refine r_if_eq 357 hC dL_told_134 (by decide) (fun h => ?_) (fun h => ?_)
    · have hf := if_T hf h
      refine r_iinc (v := v10 + 1) (L' := [(10, .int (v10 + 1)), (0, .ref (Z.1 0)), (1, .ref (Z.1 400)), (2, .ref (G.2.2.2 3)), (3, .int v3), (5, .int v5), (6, .int v6), (7, .int v7), (8, .int v8), (9, .int v9), (11, .int v11), (12, .int v12)]) hC dL_told_357 9 rfl rfl (by decide) rfl ?_
      refine r_goto 107 hC dL_told_360 (by decide) ?_
      refine r_L [1, 2, 3, 4, 5, 6, 7, 8, 9, 0] rfl ?_
      exact hk107 _ _ _ _ _ _ _ (by omega) (by omega) hf
    · have hf := if_F hf h
      refine r_aload_n hC dL_told_137 2 rfl ?_
      refine r_iload_n hC dL_told_138 3 rfl ?_
      refine r_iconst (v := 1) hC dL_told_139 rfl ?_
      refine r_iadd hC dL_told_140 ?_
      refine r_iload hC dL_told_141 9 rfl ?_
      refine r_iconst (v := 4) hC dL_told_143 rfl ?_
      refine r_iload hC dL_told_144 11 rfl ?_
      refine r_imul hC dL_told_146 ?_
      refine r_iadd hC dL_told_147 ?_
      refine r_bipush (v := 24) hC dL_told_148 rfl ?_
      refine r_irem hC dL_told_150 (by decide) ?_
      refine r_iadd hC dL_told_151 ?_
      refine r_ccall [] (fun r M1 h => c_L_number (cx_st hC) hz hZ ((v3 + 1) + ((v10 + (4 * v12)) - (v10 + (4 * v12)) / 24 * 24)) _ r M1 h) hf cs_L_97 hC rfl rfl (by decide) (by decide) (Nat.le_of_ble_eq_true rfl) (by omega) (by omega) dL_told_152 (fun x41 M42 hf => ?_)
      refine r_iconst (v := 1) hC dL_told_155 rfl ?_
      refine r_iload hC dL_told_156 11 rfl ?_
      refine r_iconst (v := 3) hC dL_told_158 rfl ?_
      refine r_irem hC dL_told_159 (by decide) ?_
      refine r_iadd hC dL_told_160 ?_
      have hne := if_K hf
      have hf := if_V hf
      refine r_idiv hC dL_told_161 hne ?_
      refine r_istore (L' := [(13, .int (x41 / (1 + (v12 - v12 / 3 * 3)))), (0, .ref (Z.1 0)), (1, .ref (Z.1 400)), (2, .ref (G.2.2.2 3)), (3, .int v3), (5, .int v5), (6, .int v6), (7, .int v7), (8, .int v8), (9, .int v9), (10, .int v10), (11, .int v11), (12, .int v12)]) hC dL_told_162 (by decide) rfl ?_
      refine r_iload hC dL_told_164 0 rfl ?_
      refine r_bipush (v := 8) hC dL_told_166 rfl ?_
      refine r_irem hC dL_told_168 (by decide) ?_
      refine r_istore (L' := [(14, .int ((x41 / (1 + (v12 - v12 / 3 * 3))) - (x41 / (1 + (v12 - v12 / 3 * 3))) / 8 * 8)), (13, .int (x41 / (1 + (v12 - v12 / 3 * 3)))), (0, .ref (Z.1 0)), (1, .ref (Z.1 400)), (2, .ref (G.2.2.2 3)), (3, .int v3), (5, .int v5), (6, .int v6), (7, .int v7), (8, .int v8), (9, .int v9), (10, .int v10), (11, .int v11), (12, .int v12)]) hC dL_told_169 (by decide) rfl ?_
      refine r_aload_n hC dL_told_171 2 rfl ?_
      refine r_callVI [] (fun r M1 h => c_X5_errorPosition (cx_st hC) hz hZ  _ r M1 h) hf cs_L_108 hC (z_1 hZ 0 (by decide) rfl) (q0 := (RX5, TX5, 7)) rfl rfl [] rfl rfl rfl (by decide) (by decide) (Nat.le_of_ble_eq_true rfl) (by omega) (by omega) dL_told_172 (fun x43 M44 hf => ?_)
      refine r_iload hC dL_told_175 9 rfl ?_
      refine r_icmp_ne 184 hC dL_told_177 (by decide) (fun h => ?_) (fun h => ?_)
      · have hf := if_F hf h
        refine r_iconst (v := 0) hC dL_told_184 rfl ?_
        refine r_L [2, 3, 4, 5, 6, 7, 9, 10, 11, 12, 13, 1, 0] rfl ?_
        exact w_L_told_b185 hC hz hZ hzq hZq v3 v5 v6 v8 v9 v10 v11 v12 (x41 / (1 + (v12 - v12 / 3 * 3))) ((x41 / (1 + (v12 - v12 / 3 * 3))) - (x41 / (1 + (v12 - v12 / 3 * 3))) / 8 * 8) k107 k125 hk107 hk125 (by omega) (by omega) 0 _ (by omega) (by omega) hf
      · have hf := if_T hf h
        refine r_iconst (v := 1) hC dL_told_180 rfl ?_
        refine r_goto 185 hC dL_told_181 (by decide) ?_
        refine r_L [2, 3, 4, 5, 6, 7, 9, 10, 11, 12, 13, 1, 0] rfl ?_
        exact w_L_told_b185 hC hz hZ hzq hZq v3 v5 v6 v8 v9 v10 v11 v12 (x41 / (1 + (v12 - v12 / 3 * 3))) ((x41 / (1 + (v12 - v12 / 3 * 3))) - (x41 / (1 + (v12 - v12 / 3 * 3))) / 8 * 8) k107 k125 hk107 hk125 (by omega) (by omega) 1 _ (by omega) (by omega) hf
set_option maxRecDepth 20000 in
set_option maxHeartbeats 1000000 in
theorem w_L_told_b363 {X : XX} {G : GG} {Z : ZZ} {r : Int32} {M' : Mem}  {k n : Nat} (hC : Cx X G RL cL_told (some .boolean) 9 359 2154 16) (hz : ZOk G Z) (hZ : ZM Z) (hzq : ZOk G (swZ Z)) (hZq : ZM (swZ Z)) (v5 : Int32) (v6 : Int32) (v7 : Int32) (v8 : Int32) (v9 : Int32)    (M : Mem) (hb : k + 11 ≤ 359) (hn : n ≤ 6 * k) (hf : f_L_told_b363 (scG G) (lnG G) v5 v6 v7 v8 v9 M = some (r, M')) : V X G Z M k n (QN X G (QcI G Z r M') 359 2154) 363 [(0, .ref (Z.1 0)), (1, .ref (Z.1 400)), (5, .int v5), (6, .int v6), (7, .int v7), (8, .int v8), (9, .int v9)] [] := by
  unfold f_L_told_b363 at hf
  refine r_iload hC dL_told_363 4 rfl ?_
  refine r_if_eq 492 hC dL_told_365 (by decide) (fun h => ?_) (fun h => ?_)
  · have hf := if_T hf h
    refine r_iconst (v := 0) hC dL_told_492 rfl ?_
    exact r_zret hf hC rfl rfl (by omega) (by omega) dL_told_493
  · have hf := if_F hf h
    refine r_aload_n hC dL_told_368 0 rfl ?_
    refine r_callVI [] (fun r M1 h => c_X5_errorPosition (cx_st hC) hz hZ  _ r M1 h) hf cs_L_108 hC (z_1 hZ 0 (by decide) rfl) (q0 := (RX5, TX5, 7)) rfl rfl [] rfl rfl rfl (by decide) (by decide) (Nat.le_of_ble_eq_true rfl) (by omega) (by omega) dL_told_369 (fun x17 M18 hf => ?_)
    refine r_bipush (v := (-9)) hC dL_told_372 rfl ?_
    refine r_icmp_ne 492 hC dL_told_374 (by decide) (fun h => ?_) (fun h => ?_)
    · have hf := if_F hf h
      refine r_iconst (v := 0) hC dL_told_492 rfl ?_
      exact r_zret hf hC rfl rfl (by omega) (by omega) dL_told_493
    · have hf := if_T hf h
      refine r_aload_n hC dL_told_377 0 rfl ?_
      refine r_wcall [] (fun r M1 h => c_L_tryLoad (cx_st hC) hz hZ  _ r M1 h) hf cs_L_111 hC rfl rfl (by decide) (by decide) (Nat.le_of_ble_eq_true rfl) (by omega) (by omega) dL_told_378 (fun x19 M20 hf => ?_)
      refine r_iload hC dL_told_381 3 rfl ?_
      refine r_icmp_ne 492 hC dL_told_383 (by decide) (fun h => ?_) (fun h => ?_)
      · have hf := if_F hf h
        refine r_iconst (v := 0) hC dL_told_492 rfl ?_
        exact r_zret hf hC rfl rfl (by omega) (by omega) dL_told_493
      · have hf := if_T hf h
        refine r_aload_n hC dL_told_386 1 rfl ?_
        refine V_sw ?_
        refine r_wcall [] (fun r M1 h => c_L_tryLoad (cx_st hC) hzq hZq  _ r M1 h) hf cs_L_111 hC rfl rfl (by decide) (by decide) (Nat.le_of_ble_eq_true rfl) (by omega) (by omega) dL_told_387 (fun x21 M22 hf => ?_)
        refine V_sb ?_
        refine r_iload hC dL_told_390 3 rfl ?_
        refine r_icmp_ne 492 hC dL_told_392 (by decide) (fun h => ?_) (fun h => ?_)
        · have hf := if_F hf h
          refine r_iconst (v := 0) hC dL_told_492 rfl ?_
          exact r_zret hf hC rfl rfl (by omega) (by omega) dL_told_493
        · have hf := if_T hf h
          refine r_aload_n hC dL_told_395 0 rfl ?_
          refine r_bipush (v := 6) hC dL_told_396 rfl ?_
          refine r_wcall [] (fun r M1 h => c_L_tryAbout (cx_st hC) hz hZ 6 _ r M1 h) hf cs_L_115 hC rfl rfl (by decide) (by decide) (Nat.le_of_ble_eq_true rfl) (by omega) (by omega) dL_told_398 (fun x23 M24 hf => ?_)
          refine r_iload hC dL_told_401 2 rfl ?_
          refine r_icmp_ne 492 hC dL_told_403 (by decide) (fun h => ?_) (fun h => ?_)
          · have hf := if_F hf h
            refine r_iconst (v := 0) hC dL_told_492 rfl ?_
            exact r_zret hf hC rfl rfl (by omega) (by omega) dL_told_493
          · have hf := if_T hf h
            refine r_aload_n hC dL_told_406 0 rfl ?_
            refine r_bipush (v := 7) hC dL_told_407 rfl ?_
            refine r_wcall [] (fun r M1 h => c_L_tryAbout (cx_st hC) hz hZ 7 _ r M1 h) hf cs_L_115 hC rfl rfl (by decide) (by decide) (Nat.le_of_ble_eq_true rfl) (by omega) (by omega) dL_told_409 (fun x25 M26 hf => ?_)
            refine r_iload hC dL_told_412 3 rfl ?_
            refine r_icmp_ne 492 hC dL_told_414 (by decide) (fun h => ?_) (fun h => ?_)
            · have hf := if_F hf h
              refine r_iconst (v := 0) hC dL_told_492 rfl ?_
              exact r_zret hf hC rfl rfl (by omega) (by omega) dL_told_493
            · have hf := if_T hf h
              refine r_aload_n hC dL_told_417 0 rfl ?_
              refine r_bipush (v := 8) hC dL_told_418 rfl ?_
              refine r_wcall [] (fun r M1 h => c_L_tryAbout (cx_st hC) hz hZ 8 _ r M1 h) hf cs_L_115 hC rfl rfl (by decide) (by decide) (Nat.le_of_ble_eq_true rfl) (by omega) (by omega) dL_told_420 (fun x27 M28 hf => ?_)
              refine r_iload hC dL_told_423 6 rfl ?_
              refine r_icmp_ne 492 hC dL_told_425 (by decide) (fun h => ?_) (fun h => ?_)
              · have hf := if_F hf h
                refine r_iconst (v := 0) hC dL_told_492 rfl ?_
                exact r_zret hf hC rfl rfl (by omega) (by omega) dL_told_493
              · have hf := if_T hf h
                refine r_aload_n hC dL_told_428 0 rfl ?_
                refine r_iconst (v := 0) hC dL_told_429 rfl ?_
                refine r_wcall [] (fun r M1 h => c_L_tryAbout (cx_st hC) hz hZ 0 _ r M1 h) hf cs_L_115 hC rfl rfl (by decide) (by decide) (Nat.le_of_ble_eq_true rfl) (by omega) (by omega) dL_told_430 (fun x29 M30 hf => ?_)
                refine r_bipush (v := 12) hC dL_told_433 rfl ?_
                refine r_icmp_ne 492 hC dL_told_435 (by decide) (fun h => ?_) (fun h => ?_)
                · have hf := if_F hf h
                  refine r_iconst (v := 0) hC dL_told_492 rfl ?_
                  exact r_zret hf hC rfl rfl (by omega) (by omega) dL_told_493
                · have hf := if_T hf h
                  refine r_aload_n hC dL_told_438 0 rfl ?_
                  refine r_wcall [] (fun r M1 h => c_L_tryUndo (cx_st hC) hz hZ  _ r M1 h) hf cs_L_118 hC rfl rfl (by decide) (by decide) (Nat.le_of_ble_eq_true rfl) (by omega) (by omega) dL_told_439 (fun x31 M32 hf => ?_)
                  refine r_sipush (v := (-1003)) hC dL_told_442 rfl ?_
                  refine r_icmp_ne 492 hC dL_told_445 (by decide) (fun h => ?_) (fun h => ?_)
                  · have hf := if_F hf h
                    refine r_iconst (v := 0) hC dL_told_492 rfl ?_
                    exact r_zret hf hC rfl rfl (by omega) (by omega) dL_told_493
                  · have hf := if_T hf h
                    refine r_aload_n hC dL_told_448 1 rfl ?_
                    refine r_iconst (v := 1) hC dL_told_449 rfl ?_
                    refine V_sw ?_
                    refine r_wcall [] (fun r M1 h => c_L_tryRestore (cx_st hC) hzq hZq 1 _ r M1 h) hf cs_L_121 hC rfl rfl (by decide) (by decide) (Nat.le_of_ble_eq_true rfl) (by omega) (by omega) dL_told_450 (fun x33 M34 hf => ?_)
                    refine V_sb ?_
                    refine r_sipush (v := (-1003)) hC dL_told_453 rfl ?_
                    refine r_icmp_ne 492 hC dL_told_456 (by decide) (fun h => ?_) (fun h => ?_)
                    · have hf := if_F hf h
                      refine r_iconst (v := 0) hC dL_told_492 rfl ?_
                      exact r_zret hf hC rfl rfl (by omega) (by omega) dL_told_493
                    · have hf := if_T hf h
                      refine r_aload_n hC dL_told_459 0 rfl ?_
                      refine r_aload_n hC dL_told_460 1 rfl ?_
                      refine r_bipush (v := 45) hC dL_told_461 rfl ?_
                      refine r_ccall [] (fun r M1 h => c_L_put (cx_st hC) hz hZ hzq hZq 45 _ r M1 h) hf cs_L_104 hC rfl rfl (by decide) (by decide) (Nat.le_of_ble_eq_true rfl) (by omega) (by omega) dL_told_463 (fun x35 M36 hf => ?_)
                      refine r_if_eq 492 hC dL_told_466 (by decide) (fun h => ?_) (fun h => ?_)
                      · have hf := if_T hf h
                        refine r_iconst (v := 0) hC dL_told_492 rfl ?_
                        exact r_zret hf hC rfl rfl (by omega) (by omega) dL_told_493
                      · have hf := if_F hf h
                        refine r_aload_n hC dL_told_469 0 rfl ?_
                        refine r_callVI [] (fun r M1 h => c_X5_errorPosition (cx_st hC) hz hZ  _ r M1 h) hf cs_L_108 hC (z_1 hZ 0 (by decide) rfl) (q0 := (RX5, TX5, 7)) rfl rfl [] rfl rfl rfl (by decide) (by decide) (Nat.le_of_ble_eq_true rfl) (by omega) (by omega) dL_told_470 (fun x37 M38 hf => ?_)
                        refine r_iload hC dL_told_473 5 rfl ?_
                        refine r_icmp_ne 492 hC dL_told_475 (by decide) (fun h => ?_) (fun h => ?_)
                        · have hf := if_F hf h
                          refine r_iconst (v := 0) hC dL_told_492 rfl ?_
                          exact r_zret hf hC rfl rfl (by omega) (by omega) dL_told_493
                        · have hf := if_T hf h
                          refine r_aload_n hC dL_told_478 0 rfl ?_
                          refine r_wcall [] (fun r M1 h => c_L_tryLoad (cx_st hC) hz hZ  _ r M1 h) hf cs_L_111 hC rfl rfl (by decide) (by decide) (Nat.le_of_ble_eq_true rfl) (by omega) (by omega) dL_told_479 (fun x39 M40 hf => ?_)
                          refine r_sipush (v := (-1003)) hC dL_told_482 rfl ?_
                          refine r_icmp_ne 492 hC dL_told_485 (by decide) (fun h => ?_) (fun h => ?_)
                          · have hf := if_F hf h
                            refine r_iconst (v := 0) hC dL_told_492 rfl ?_
                            exact r_zret hf hC rfl rfl (by omega) (by omega) dL_told_493
                          · have hf := if_T hf h
                            refine r_iconst (v := 1) hC dL_told_488 rfl ?_
                            refine r_goto 493 hC dL_told_489 (by decide) ?_
                            exact r_zret hf hC rfl rfl (by omega) (by omega) dL_told_493
set_option maxRecDepth 20000 in
set_option maxHeartbeats 1000000 in
theorem w_L_told_b107 {X : XX} {G : GG} {Z : ZZ} {r : Int32} {M' : Mem} {B107 : Nat} {k n : Nat} (hC : Cx X G RL cL_told (some .boolean) 9 359 2154 16) (hz : ZOk G Z) (hZ : ZM Z) (hzq : ZOk G (swZ Z)) (hZq : ZM (swZ Z)) (v3 : Int32) (v5 : Int32) (v6 : Int32)   (k107 : Int32 → Int32 → Int32 → Int32 → Mem → Option (Int32 × Mem)) (hk107 : ∀ (k n : Nat) (u7 : Int32) (u8 : Int32) (u9 : Int32) (u10 : Int32) (M : Mem), k ≤ B107 → n ≤ 6 * k → k107 u7 u8 u9 u10 M = some (r, M') → V X G Z M k n (QN X G (QcI G Z r M') 359 2154) 107 [(0, .ref (Z.1 0)), (1, .ref (Z.1 400)), (2, .ref (G.2.2.2 3)), (3, .int v3), (5, .int v5), (6, .int v6), (7, .int u7), (8, .int u8), (9, .int u9), (10, .int u10)] []) (hB107 : B107 ≤ 359) (v7 : Int32) (v8 : Int32) (v9 : Int32) (v10 : Int32) (M : Mem) (hb : k + 11 ≤ 359) (hn : n ≤ 6 * k) (hb107 : k + 68 ≤ B107) (hf : f_L_told_b107 (scG G) (lnG G) v3 v5 v6 k107 v7 v8 v9 v10 M = some (r, M')) : V X G Z M k n (QN X G (QcI G Z r M') 359 2154) 107 [(0, .ref (Z.1 0)), (1, .ref (Z.1 400)), (2, .ref (G.2.2.2 3)), (3, .int v3), (5, .int v5), (6, .int v6), (7, .int v7), (8, .int v8), (9, .int v9), (10, .int v10)] [] := by
  unfold f_L_told_b107 at hf
  refine r_iload hC dL_told_107 9 rfl ?_
  refine r_iload hC dL_told_109 4 rfl ?_
  refine r_icmp_ge 363 hC dL_told_111 (by decide) (fun h => ?_) (fun h => ?_)
  · have hf := if_T hf h
    refine r_L [0, 1, 4, 5, 6, 7, 8] rfl ?_
    exact w_L_told_b363 hC hz hZ hzq hZq v5 v6 v7 v8 v9   _ (by omega) (by omega) hf
  · have hf := if_F hf h
    refine r_iload hC dL_told_114 6 rfl ?_
    refine r_if_eq 363 hC dL_told_116 (by decide) (fun h => ?_) (fun h => ?_)
    · have hf := if_T hf h
      refine r_L [0, 1, 4, 5, 6, 7, 8] rfl ?_
      exact w_L_told_b363 hC hz hZ hzq hZq v5 v6 v7 v8 v9   _ (by omega) (by omega) hf
    · have hf := if_F hf h
      refine r_iconst (v := 1) hC dL_told_119 rfl ?_
      refine r_istore (L' := [(11, .int 1), (0, .ref (Z.1 0)), (1, .ref (Z.1 400)), (2, .ref (G.2.2.2 3)), (3, .int v3), (5, .int v5), (6, .int v6), (7, .int v7), (8, .int v8), (9, .int v9), (10, .int v10)]) hC dL_told_120 (by decide) rfl ?_
      refine r_iconst (v := 0) hC dL_told_122 rfl ?_
      refine r_istore (L' := [(12, .int 0), (11, .int 1), (0, .ref (Z.1 0)), (1, .ref (Z.1 400)), (2, .ref (G.2.2.2 3)), (3, .int v3), (5, .int v5), (6, .int v6), (7, .int v7), (8, .int v8), (9, .int v9), (10, .int v10)]) hC dL_told_123 (by decide) rfl ?_
      refine r_L [2, 3, 4, 5, 6, 7, 8, 9, 10, 11, 1, 0] rfl ?_
      exact lq5_idf (P := fun j (u7 : Int32) (u8 : Int32) (u9 : Int32) (u11 : Int32) (u12 : Int32) (M : Mem) => ∀ k n : Nat, n ≤ 6 * k → k + 4 * j ≤ 359 → k + (4 * j + 0) ≤ B107 → V X G Z M k n (QN X G (QcI G Z r M') 359 2154) 125 [(0, .ref (Z.1 0)), (1, .ref (Z.1 400)), (2, .ref (G.2.2.2 3)), (3, .int v3), (5, .int v5), (6, .int v6), (7, .int u7), (8, .int u8), (9, .int u9), (10, .int v10), (11, .int u11), (12, .int u12)] []) (fun j kk hkk u7 u8 u9 u11 u12 M hf k n hn hq0 hq1 => w_L_told_b125 hC hz hZ hzq hZq v3 v5 v6 v10 k107 hk107 (by omega) kk (fun k' n' u7 u8 u9 u11 u12 M hB hn' hf' => hkk u7 u8 u9 u11 u12 M hf' k' n' (by omega) (by omega) (by omega)) (k := k) (n := n) (B125 := k + 4) (by omega) u7 u8 u9 u11 u12 M (by omega) (by omega) (by omega) hf) 17 _ _ _ _ _ _ hf _ _ (by omega) (by omega) (by omega)
set_option maxRecDepth 20000 in
set_option maxHeartbeats 1000000 in
theorem w_L_told_b96 {X : XX} {G : GG} {Z : ZZ} {r : Int32} {M' : Mem}  {k n : Nat} (hC : Cx X G RL cL_told (some .boolean) 9 359 2154 16) (hz : ZOk G Z) (hZ : ZM Z) (hzq : ZOk G (swZ Z)) (hZq : ZM (swZ Z)) (v3 : Int32) (v5 : Int32) (v6 : Int32)   (s0 : Int32) (M : Mem) (hb : k + 351 ≤ 359) (hn : n ≤ 6 * k) (hf : f_L_told_b96 (scG G) (lnG G) v3 v5 v6 s0 M = some (r, M')) : V X G Z M k n (QN X G (QcI G Z r M') 359 2154) 96 [(0, .ref (Z.1 0)), (1, .ref (Z.1 400)), (2, .ref (G.2.2.2 3)), (3, .int v3), (5, .int v5), (6, .int v6)] [.int s0] := by
  unfold f_L_told_b96 at hf
  refine r_istore (L' := [(7, .int s0), (0, .ref (Z.1 0)), (1, .ref (Z.1 400)), (2, .ref (G.2.2.2 3)), (3, .int v3), (5, .int v5), (6, .int v6)]) hC dL_told_96 (by decide) rfl ?_
  refine r_iconst (v := 4) hC dL_told_98 rfl ?_
  refine r_istore (L' := [(8, .int 4), (7, .int s0), (0, .ref (Z.1 0)), (1, .ref (Z.1 400)), (2, .ref (G.2.2.2 3)), (3, .int v3), (5, .int v5), (6, .int v6)]) hC dL_told_99 (by decide) rfl ?_
  refine r_iconst (v := 0) hC dL_told_101 rfl ?_
  refine r_istore (L' := [(9, .int 0), (8, .int 4), (7, .int s0), (0, .ref (Z.1 0)), (1, .ref (Z.1 400)), (2, .ref (G.2.2.2 3)), (3, .int v3), (5, .int v5), (6, .int v6)]) hC dL_told_102 (by decide) rfl ?_
  refine r_iconst (v := 0) hC dL_told_104 rfl ?_
  refine r_istore (L' := [(10, .int 0), (9, .int 0), (8, .int 4), (7, .int s0), (0, .ref (Z.1 0)), (1, .ref (Z.1 400)), (2, .ref (G.2.2.2 3)), (3, .int v3), (5, .int v5), (6, .int v6)]) hC dL_told_105 (by decide) rfl ?_
  refine r_L [4, 5, 6, 7, 8, 9, 3, 2, 1, 0] rfl ?_
  exact lq4_idf (P := fun j (u7 : Int32) (u8 : Int32) (u9 : Int32) (u10 : Int32) (M : Mem) => ∀ k n : Nat, n ≤ 6 * k → k + (68 * j + 11) ≤ 359 → V X G Z M k n (QN X G (QcI G Z r M') 359 2154) 107 [(0, .ref (Z.1 0)), (1, .ref (Z.1 400)), (2, .ref (G.2.2.2 3)), (3, .int v3), (5, .int v5), (6, .int v6), (7, .int u7), (8, .int u8), (9, .int u9), (10, .int u10)] []) (fun j kk hkk u7 u8 u9 u10 M hf k n hn hq0 => w_L_told_b107 hC hz hZ hzq hZq v3 v5 v6  kk (fun k' n' u7 u8 u9 u10 M hB hn' hf' => hkk u7 u8 u9 u10 M hf' k' n' (by omega) (by omega)) (k := k) (n := n) (B107 := k + 68) (by omega) u7 u8 u9 u10 M (by omega) (by omega) (by omega) hf) 5 _ _ _ _ _ hf _ _ (by omega) (by omega)
set_option maxRecDepth 20000 in
set_option maxHeartbeats 1000000 in
theorem w_L_told_b95 {X : XX} {G : GG} {Z : ZZ} {r : Int32} {M' : Mem}  {k n : Nat} (hC : Cx X G RL cL_told (some .boolean) 9 359 2154 16) (hz : ZOk G Z) (hZ : ZM Z) (hzq : ZOk G (swZ Z)) (hZq : ZM (swZ Z)) (v3 : Int32) (v5 : Int32) (v6 : Int32)    (M : Mem) (hb : k + 351 ≤ 359) (hn : n ≤ 6 * k) (hf : f_L_told_b95 (scG G) (lnG G) v3 v5 v6 M = some (r, M')) : V X G Z M k n (QN X G (QcI G Z r M') 359 2154) 95 [(0, .ref (Z.1 0)), (1, .ref (Z.1 400)), (2, .ref (G.2.2.2 3)), (3, .int v3), (5, .int v5), (6, .int v6)] [] := by
  unfold f_L_told_b95 at hf
  refine r_iconst (v := 0) hC dL_told_95 rfl ?_
  exact w_L_told_b96 hC hz hZ hzq hZq v3 v5 v6  0 _ (by omega) (by omega) hf
set_option maxRecDepth 20000 in
set_option maxHeartbeats 1000000 in
theorem w_L_told {X : XX} {G : GG} {Z : ZZ} (hC : Cx X G RL cL_told (some .boolean) 9 359 2154 16) (hz : ZOk G Z) (hZ : ZM Z) (hzq : ZOk G (swZ Z)) (hZq : ZM (swZ Z)) (v3 : Int32) (M : Mem) {r : Int32} {M' : Mem} (hf : f_L_told (scG G) (lnG G) v3 M = some (r, M')) : V X G Z M 0 0 (QN X G (QcI G Z r M') 359 2154) 0 [(0, .ref (Z.1 0)), (1, .ref (Z.1 400)), (2, .ref (G.2.2.2 3)), (3, .int v3)] [] := by
  have hb : 0 + 359 ≤ 359 := Nat.le_refl _
  have hn : 0 ≤ 6 * 0 := Nat.le_refl _
  unfold f_L_told at hf
  refine r_aload_n hC dL_told_0 2 rfl ?_
  refine r_iload_n hC dL_told_1 3 rfl ?_
  refine r_ccall [] (fun r M1 h => c_L_number (cx_st hC) hz hZ v3 _ r M1 h) hf cs_L_97 hC rfl rfl (by decide) (by decide) (Nat.le_of_ble_eq_true rfl) (by omega) (by omega) dL_told_2 (fun x1 M2 hf => ?_)
  refine r_istore (L' := [(4, .int x1), (0, .ref (Z.1 0)), (1, .ref (Z.1 400)), (2, .ref (G.2.2.2 3)), (3, .int v3)]) hC dL_told_5 (by decide) rfl ?_
  refine r_iconst (v := 1) hC dL_told_7 rfl ?_
  refine r_iload hC dL_told_8 0 rfl ?_
  refine r_iconst (v := 4) hC dL_told_10 rfl ?_
  refine r_irem hC dL_told_11 (by decide) ?_
  refine r_iadd hC dL_told_12 ?_
  refine r_istore (L' := [(5, .int (1 + (x1 - x1 / 4 * 4))), (4, .int x1), (0, .ref (Z.1 0)), (1, .ref (Z.1 400)), (2, .ref (G.2.2.2 3)), (3, .int v3)]) hC dL_told_13 (by decide) rfl ?_
  refine r_iconst (v := 1) hC dL_told_15 rfl ?_
  refine r_iload hC dL_told_16 1 rfl ?_
  refine r_iconst (v := 4) hC dL_told_18 rfl ?_
  refine r_idiv hC dL_told_19 (by decide) ?_
  refine r_bipush (v := 9) hC dL_told_20 rfl ?_
  refine r_irem hC dL_told_22 (by decide) ?_
  refine r_iadd hC dL_told_23 ?_
  refine r_istore (L' := [(6, .int (1 + ((x1 / 4) - (x1 / 4) / 9 * 9))), (5, .int (1 + (x1 - x1 / 4 * 4))), (4, .int x1), (0, .ref (Z.1 0)), (1, .ref (Z.1 400)), (2, .ref (G.2.2.2 3)), (3, .int v3)]) hC dL_told_24 (by decide) rfl ?_
  refine r_aload_n hC dL_told_26 3 rfl ?_
  refine r_callVI [] (fun r M1 h => c_X5_clearText (cx_st hC) hz hZ  _ r M1 h) hf cs_L_101 hC (z_1 hZ 0 (by decide) rfl) (q0 := (RX5, TX5, 7)) rfl rfl [] rfl rfl rfl (by decide) (by decide) (Nat.le_of_ble_eq_true rfl) (by omega) (by omega) dL_told_27 (fun x3 M4 hf => ?_)
  refine r_aload_n hC dL_told_30 4 rfl ?_
  refine V_sw ?_
  refine r_callVI [.int x3] (fun r M1 h => c_X5_clearText (cx_st hC) hzq hZq  _ r M1 h) hf cs_L_101 hC (z_1 hZq 0 (by decide) rfl) (q0 := (RX5, TX5, 7)) rfl rfl [] rfl rfl rfl (by decide) (by decide) (Nat.le_of_ble_eq_true rfl) (by omega) (by omega) dL_told_31 (fun x5 M6 hf => ?_)
  refine V_sb ?_
  refine r_icmp_ne 95 hC dL_told_34 (by decide) (fun h => ?_) (fun h => ?_)
  · have hf := if_F hf h
    refine r_L [3, 4, 5, 6, 1, 0] rfl ?_
    exact w_L_told_b95 hC hz hZ hzq hZq v3 (1 + (x1 - x1 / 4 * 4)) (1 + ((x1 / 4) - (x1 / 4) / 9 * 9))   _ (by omega) (by omega) hf
  · have hf := if_T hf h
    refine r_aload_n hC dL_told_37 3 rfl ?_
    refine r_aload_n hC dL_told_38 4 rfl ?_
    refine r_bipush (v := 77) hC dL_told_39 rfl ?_
    refine r_ccall [] (fun r M1 h => c_L_put (cx_st hC) hz hZ hzq hZq 77 _ r M1 h) hf cs_L_104 hC rfl rfl (by decide) (by decide) (Nat.le_of_ble_eq_true rfl) (by omega) (by omega) dL_told_41 (fun x7 M8 hf => ?_)
    refine r_if_eq 95 hC dL_told_44 (by decide) (fun h => ?_) (fun h => ?_)
    · have hf := if_T hf h
      refine r_L [3, 4, 5, 6, 1, 0] rfl ?_
      exact w_L_told_b95 hC hz hZ hzq hZq v3 (1 + (x1 - x1 / 4 * 4)) (1 + ((x1 / 4) - (x1 / 4) / 9 * 9))   _ (by omega) (by omega) hf
    · have hf := if_F hf h
      refine r_aload_n hC dL_told_47 3 rfl ?_
      refine r_callVI [] (fun r M1 h => c_X5_errorPosition (cx_st hC) hz hZ  _ r M1 h) hf cs_L_108 hC (z_1 hZ 0 (by decide) rfl) (q0 := (RX5, TX5, 7)) rfl rfl [] rfl rfl rfl (by decide) (by decide) (Nat.le_of_ble_eq_true rfl) (by omega) (by omega) dL_told_48 (fun x9 M10 hf => ?_)
      refine r_iconst (v := 1) hC dL_told_51 rfl ?_
      refine r_icmp_ne 95 hC dL_told_52 (by decide) (fun h => ?_) (fun h => ?_)
      · have hf := if_F hf h
        refine r_L [3, 4, 5, 6, 1, 0] rfl ?_
        exact w_L_told_b95 hC hz hZ hzq hZq v3 (1 + (x1 - x1 / 4 * 4)) (1 + ((x1 / 4) - (x1 / 4) / 9 * 9))   _ (by omega) (by omega) hf
      · have hf := if_T hf h
        refine r_aload_n hC dL_told_55 3 rfl ?_
        refine r_aload_n hC dL_told_56 4 rfl ?_
        refine r_bipush (v := 48) hC dL_told_57 rfl ?_
        refine r_iload hC dL_told_59 1 rfl ?_
        refine r_iadd hC dL_told_61 ?_
        refine r_ccall [] (fun r M1 h => c_L_put (cx_st hC) hz hZ hzq hZq (48 + (1 + (x1 - x1 / 4 * 4))) _ r M1 h) hf cs_L_104 hC rfl rfl (by decide) (by decide) (Nat.le_of_ble_eq_true rfl) (by omega) (by omega) dL_told_62 (fun x11 M12 hf => ?_)
        refine r_if_eq 95 hC dL_told_65 (by decide) (fun h => ?_) (fun h => ?_)
        · have hf := if_T hf h
          refine r_L [3, 4, 5, 6, 1, 0] rfl ?_
          exact w_L_told_b95 hC hz hZ hzq hZq v3 (1 + (x1 - x1 / 4 * 4)) (1 + ((x1 / 4) - (x1 / 4) / 9 * 9))   _ (by omega) (by omega) hf
        · have hf := if_F hf h
          refine r_aload_n hC dL_told_68 3 rfl ?_
          refine r_aload_n hC dL_told_69 4 rfl ?_
          refine r_bipush (v := 48) hC dL_told_70 rfl ?_
          refine r_ccall [] (fun r M1 h => c_L_put (cx_st hC) hz hZ hzq hZq 48 _ r M1 h) hf cs_L_104 hC rfl rfl (by decide) (by decide) (Nat.le_of_ble_eq_true rfl) (by omega) (by omega) dL_told_72 (fun x13 M14 hf => ?_)
          refine r_if_eq 95 hC dL_told_75 (by decide) (fun h => ?_) (fun h => ?_)
          · have hf := if_T hf h
            refine r_L [3, 4, 5, 6, 1, 0] rfl ?_
            exact w_L_told_b95 hC hz hZ hzq hZq v3 (1 + (x1 - x1 / 4 * 4)) (1 + ((x1 / 4) - (x1 / 4) / 9 * 9))   _ (by omega) (by omega) hf
          · have hf := if_F hf h
            refine r_aload_n hC dL_told_78 3 rfl ?_
            refine r_aload_n hC dL_told_79 4 rfl ?_
            refine r_bipush (v := 48) hC dL_told_80 rfl ?_
            refine r_iload hC dL_told_82 0 rfl ?_
            refine r_iadd hC dL_told_84 ?_
            refine r_ccall [] (fun r M1 h => c_L_put (cx_st hC) hz hZ hzq hZq (48 + (1 + ((x1 / 4) - (x1 / 4) / 9 * 9))) _ r M1 h) hf cs_L_104 hC rfl rfl (by decide) (by decide) (Nat.le_of_ble_eq_true rfl) (by omega) (by omega) dL_told_85 (fun x15 M16 hf => ?_)
            refine r_if_eq 95 hC dL_told_88 (by decide) (fun h => ?_) (fun h => ?_)
            · have hf := if_T hf h
              refine r_L [3, 4, 5, 6, 1, 0] rfl ?_
              exact w_L_told_b95 hC hz hZ hzq hZq v3 (1 + (x1 - x1 / 4 * 4)) (1 + ((x1 / 4) - (x1 / 4) / 9 * 9))   _ (by omega) (by omega) hf
            · have hf := if_F hf h
              refine r_iconst (v := 1) hC dL_told_91 rfl ?_
              refine r_goto 96 hC dL_told_92 (by decide) ?_
              refine r_L [3, 4, 5, 6, 1, 0] rfl ?_
              exact w_L_told_b96 hC hz hZ hzq hZq v3 (1 + (x1 - x1 / 4 * 4)) (1 + ((x1 / 4) - (x1 / 4) / 9 * 9))  1 _ (by omega) (by omega) hf
set_option maxRecDepth 20000 in
set_option maxHeartbeats 1000000 in
theorem c_L_told {l : Launch} (hl : l.stackTraces = false) {G : GG} {Z : ZZ} (hz : ZOk G Z) (hZ : ZM Z) (hzq : ZOk G (swZ Z)) (hZq : ZM (swZ Z)) (v3 : Int32) (M : Mem) (r : Int32) (M' : Mem) (hf : f_L_told (scG G) (lnG G) v3 M = some (r, M')) : CC (QcI G Z r M') l G Z yL_told cL_told 16 (some .boolean) 9 359 2154 [.ref (Z.1 0), .ref (Z.1 400), .ref (G.2.2.2 3), .int v3] M :=
  CC.of [(0, .ref (Z.1 0)), (1, .ref (Z.1 400)), (2, .ref (G.2.2.2 3)), (3, .int v3)] hl (by decide +kernel) (Nat.le_of_ble_eq_true rfl) rfl (fun _ hC => w_L_told hC hz hZ hzq hZq v3 M hf)
set_option maxRecDepth 20000 in
set_option maxHeartbeats 1000000 in
theorem w_L_scripts_b312 {X : XX} {G : GG} {Z : ZZ} {r : Int32} {M' : Mem}  {k n : Nat} (hC : Cx X G RL cL_scripts (some .boolean) 10 22 132 12) (hz : ZOk G Z) (hZ : ZM Z) (v1 : Int32) (v2 : Int32) (v3 : Int32) (v10 : Int32)   (s0 : Int32) (M : Mem) (hb : k + 11 ≤ 22) (hn : n ≤ 6 * k) (hf : f_L_scripts_b312 v1 v2 v3 v10 s0 M = some (r, M')) : V X G Z M k n (QN X G (QcI G Z r M') 22 132) 312 [(0, .ref (Z.1 0)), (1, .int v1), (2, .int v2), (3, .int v3), (10, .int v10)] [.int s0] := by
  unfold f_L_scripts_b312 at hf
  refine r_istore (L' := [(11, .int s0), (0, .ref (Z.1 0)), (1, .int v1), (2, .int v2), (3, .int v3), (10, .int v10)]) hC dL_scripts_312 (by decide) rfl ?_
  refine r_iload hC dL_scripts_314 0 rfl ?_
  refine r_if_eq 478 hC dL_scripts_316 (by decide) (fun h => ?_) (fun h => ?_)
  · have hf := if_T hf h
    refine r_iconst (v := 0) hC dL_scripts_478 rfl ?_
    exact r_zret hf hC rfl rfl (by omega) (by omega) dL_scripts_479
  · have hf := if_F hf h
    refine r_aload_n hC dL_scripts_319 1 rfl ?_
    refine r_iconst (v := 1) hC dL_scripts_320 rfl ?_
    refine r_ldc2 (v := 10000) hC dL_scripts_321 kw_L_213 ?_
    refine r_wcall [] (fun r M1 h => c_L_tryScript (cx_st hC) hz hZ 1 10000 _ r M1 h) hf cs_L_170 hC rfl rfl (by decide) (by decide) (Nat.le_of_ble_eq_true rfl) (by omega) (by omega) dL_scripts_324 (fun x21 M22 hf => ?_)
    refine r_if_ne 478 hC dL_scripts_327 (by decide) (fun h => ?_) (fun h => ?_)
    · have hf := if_F hf h
      refine r_iconst (v := 0) hC dL_scripts_478 rfl ?_
      exact r_zret hf hC rfl rfl (by omega) (by omega) dL_scripts_479
    · have hf := if_T hf h
      refine r_aload_n hC dL_scripts_330 1 rfl ?_
      refine r_iconst (v := 2) hC dL_scripts_331 rfl ?_
      refine r_ldc2 (v := 1001215002) hC dL_scripts_332 kw_L_215 ?_
      refine r_wcall [] (fun r M1 h => c_L_tryScript (cx_st hC) hz hZ 2 1001215002 _ r M1 h) hf cs_L_170 hC rfl rfl (by decide) (by decide) (Nat.le_of_ble_eq_true rfl) (by omega) (by omega) dL_scripts_335 (fun x23 M24 hf => ?_)
      refine r_iconst (v := 1) hC dL_scripts_338 rfl ?_
      refine r_icmp_ne 478 hC dL_scripts_339 (by decide) (fun h => ?_) (fun h => ?_)
      · have hf := if_F hf h
        refine r_iconst (v := 0) hC dL_scripts_478 rfl ?_
        exact r_zret hf hC rfl rfl (by omega) (by omega) dL_scripts_479
      · have hf := if_T hf h
        refine r_aload_n hC dL_scripts_342 1 rfl ?_
        refine r_iconst (v := 1) hC dL_scripts_343 rfl ?_
        refine r_ldc2 (v := 20061) hC dL_scripts_344 kw_L_217 ?_
        refine r_wcall [] (fun r M1 h => c_L_tryScript (cx_st hC) hz hZ 1 20061 _ r M1 h) hf cs_L_170 hC rfl rfl (by decide) (by decide) (Nat.le_of_ble_eq_true rfl) (by omega) (by omega) dL_scripts_347 (fun x25 M26 hf => ?_)
        refine r_if_ne 478 hC dL_scripts_350 (by decide) (fun h => ?_) (fun h => ?_)
        · have hf := if_F hf h
          refine r_iconst (v := 0) hC dL_scripts_478 rfl ?_
          exact r_zret hf hC rfl rfl (by omega) (by omega) dL_scripts_479
        · have hf := if_T hf h
          refine r_aload_n hC dL_scripts_353 1 rfl ?_
          refine r_iconst (v := 1) hC dL_scripts_354 rfl ?_
          refine r_ldc2 (v := 20060) hC dL_scripts_355 kw_L_219 ?_
          refine r_wcall [] (fun r M1 h => c_L_tryScript (cx_st hC) hz hZ 1 20060 _ r M1 h) hf cs_L_170 hC rfl rfl (by decide) (by decide) (Nat.le_of_ble_eq_true rfl) (by omega) (by omega) dL_scripts_358 (fun x27 M28 hf => ?_)
          refine r_bipush (v := (-9)) hC dL_scripts_361 rfl ?_
          refine r_icmp_ne 478 hC dL_scripts_363 (by decide) (fun h => ?_) (fun h => ?_)
          · have hf := if_F hf h
            refine r_iconst (v := 0) hC dL_scripts_478 rfl ?_
            exact r_zret hf hC rfl rfl (by omega) (by omega) dL_scripts_479
          · have hf := if_T hf h
            refine r_aload_n hC dL_scripts_366 1 rfl ?_
            refine r_iconst (v := 1) hC dL_scripts_367 rfl ?_
            refine r_ldc2 (v := 40000) hC dL_scripts_368 kw_L_221 ?_
            refine r_wcall [] (fun r M1 h => c_L_tryScript (cx_st hC) hz hZ 1 40000 _ r M1 h) hf cs_L_170 hC rfl rfl (by decide) (by decide) (Nat.le_of_ble_eq_true rfl) (by omega) (by omega) dL_scripts_371 (fun x29 M30 hf => ?_)
            refine r_if_ne 478 hC dL_scripts_374 (by decide) (fun h => ?_) (fun h => ?_)
            · have hf := if_F hf h
              refine r_iconst (v := 0) hC dL_scripts_478 rfl ?_
              exact r_zret hf hC rfl rfl (by omega) (by omega) dL_scripts_479
            · have hf := if_T hf h
              refine r_aload_n hC dL_scripts_377 1 rfl ?_
              refine r_iconst (v := 1) hC dL_scripts_378 rfl ?_
              refine r_ldc2 (v := 20000) hC dL_scripts_379 kw_L_223 ?_
              refine r_ldc2 (v := 1000) hC dL_scripts_382 kw_L_201 ?_
              refine r_iload_n hC dL_scripts_385 3 rfl ?_
              refine r_i2l hC dL_scripts_386 ?_
              refine r_lmul hC dL_scripts_387 ?_
              refine r_ladd hC dL_scripts_388 ?_
              refine r_wcall [] (fun r M1 h => c_L_tryScript (cx_st hC) hz hZ 1 (20000 + (1000 * (Int32.toInt64 v2))) _ r M1 h) hf cs_L_170 hC rfl rfl (by decide) (by decide) (Nat.le_of_ble_eq_true rfl) (by omega) (by omega) dL_scripts_389 (fun x31 M32 hf => ?_)
              refine r_if_ne 478 hC dL_scripts_392 (by decide) (fun h => ?_) (fun h => ?_)
              · have hf := if_F hf h
                refine r_iconst (v := 0) hC dL_scripts_478 rfl ?_
                exact r_zret hf hC rfl rfl (by omega) (by omega) dL_scripts_479
              · have hf := if_T hf h
                refine r_aload_n hC dL_scripts_395 1 rfl ?_
                refine r_iconst (v := 1) hC dL_scripts_396 rfl ?_
                refine r_ldc2 (v := 50000) hC dL_scripts_397 kw_L_225 ?_
                refine r_ldc2 (v := 100) hC dL_scripts_400 kw_L_207 ?_
                refine r_iload_n hC dL_scripts_403 3 rfl ?_
                refine r_i2l hC dL_scripts_404 ?_
                refine r_lmul hC dL_scripts_405 ?_
                refine r_ladd hC dL_scripts_406 ?_
                refine r_wcall [] (fun r M1 h => c_L_tryScript (cx_st hC) hz hZ 1 (50000 + (100 * (Int32.toInt64 v2))) _ r M1 h) hf cs_L_170 hC rfl rfl (by decide) (by decide) (Nat.le_of_ble_eq_true rfl) (by omega) (by omega) dL_scripts_407 (fun x33 M34 hf => ?_)
                refine r_if_ne 478 hC dL_scripts_410 (by decide) (fun h => ?_) (fun h => ?_)
                · have hf := if_F hf h
                  refine r_iconst (v := 0) hC dL_scripts_478 rfl ?_
                  exact r_zret hf hC rfl rfl (by omega) (by omega) dL_scripts_479
                · have hf := if_T hf h
                  refine r_aload_n hC dL_scripts_413 1 rfl ?_
                  refine r_iconst (v := 1) hC dL_scripts_414 rfl ?_
                  refine r_ldc2 (v := 60000) hC dL_scripts_415 kw_L_227 ?_
                  refine r_ldc2 (v := 100) hC dL_scripts_418 kw_L_207 ?_
                  refine r_iload_n hC dL_scripts_421 4 rfl ?_
                  refine r_i2l hC dL_scripts_422 ?_
                  refine r_lmul hC dL_scripts_423 ?_
                  refine r_ladd hC dL_scripts_424 ?_
                  refine r_wcall [] (fun r M1 h => c_L_tryScript (cx_st hC) hz hZ 1 (60000 + (100 * (Int32.toInt64 v3))) _ r M1 h) hf cs_L_170 hC rfl rfl (by decide) (by decide) (Nat.le_of_ble_eq_true rfl) (by omega) (by omega) dL_scripts_425 (fun x35 M36 hf => ?_)
                  refine r_if_ne 478 hC dL_scripts_428 (by decide) (fun h => ?_) (fun h => ?_)
                  · have hf := if_F hf h
                    refine r_iconst (v := 0) hC dL_scripts_478 rfl ?_
                    exact r_zret hf hC rfl rfl (by omega) (by omega) dL_scripts_479
                  · have hf := if_T hf h
                    refine r_aload_n hC dL_scripts_431 1 rfl ?_
                    refine r_iconst (v := 3) hC dL_scripts_432 rfl ?_
                    refine r_ldc2 (v := 200003000090000) hC dL_scripts_433 kw_L_229 ?_
                    refine r_wcall [] (fun r M1 h => c_L_tryScript (cx_st hC) hz hZ 3 200003000090000 _ r M1 h) hf cs_L_170 hC rfl rfl (by decide) (by decide) (Nat.le_of_ble_eq_true rfl) (by omega) (by omega) dL_scripts_436 (fun x37 M38 hf => ?_)
                    refine r_iconst (v := 2) hC dL_scripts_439 rfl ?_
                    refine r_icmp_ne 478 hC dL_scripts_440 (by decide) (fun h => ?_) (fun h => ?_)
                    · have hf := if_F hf h
                      refine r_iconst (v := 0) hC dL_scripts_478 rfl ?_
                      exact r_zret hf hC rfl rfl (by omega) (by omega) dL_scripts_479
                    · have hf := if_T hf h
                      refine r_aload_n hC dL_scripts_443 1 rfl ?_
                      refine r_iconst (v := 1) hC dL_scripts_444 rfl ?_
                      refine r_lconst (v := 0) hC dL_scripts_445 rfl ?_
                      refine r_wcall [] (fun r M1 h => c_L_tryScript (cx_st hC) hz hZ 1 0 _ r M1 h) hf cs_L_170 hC rfl rfl (by decide) (by decide) (Nat.le_of_ble_eq_true rfl) (by omega) (by omega) dL_scripts_446 (fun x39 M40 hf => ?_)
                      refine r_if_ne 478 hC dL_scripts_449 (by decide) (fun h => ?_) (fun h => ?_)
                      · have hf := if_F hf h
                        refine r_iconst (v := 0) hC dL_scripts_478 rfl ?_
                        exact r_zret hf hC rfl rfl (by omega) (by omega) dL_scripts_479
                      · have hf := if_T hf h
                        refine r_iload hC dL_scripts_452 5 rfl ?_
                        refine r_if_lt 478 hC dL_scripts_454 (by decide) (fun h => ?_) (fun h => ?_)
                        · have hf := if_T hf h
                          refine r_iconst (v := 0) hC dL_scripts_478 rfl ?_
                          exact r_zret hf hC rfl rfl (by omega) (by omega) dL_scripts_479
                        · have hf := if_F hf h
                          refine r_iload hC dL_scripts_457 5 rfl ?_
                          refine r_aload_n hC dL_scripts_459 1 rfl ?_
                          refine r_iload_n hC dL_scripts_460 2 rfl ?_
                          refine r_i2l hC dL_scripts_461 ?_
                          refine r_ldc2 (v := 101) hC dL_scripts_462 kw_L_197 ?_
                          refine r_lmul hC dL_scripts_465 ?_
                          refine r_bipush (v := 6) hC dL_scripts_466 rfl ?_
                          refine r_wcall [.int v10] (fun r M1 h => c_L_trySimulate (cx_st hC) hz hZ ((Int32.toInt64 v1) * 101) 6 _ r M1 h) hf cs_L_176 hC rfl rfl (by decide) (by decide) (Nat.le_of_ble_eq_true rfl) (by omega) (by omega) dL_scripts_468 (fun x41 M42 hf => ?_)
                          refine r_icmp_ne 478 hC dL_scripts_471 (by decide) (fun h => ?_) (fun h => ?_)
                          · have hf := if_F hf h
                            refine r_iconst (v := 0) hC dL_scripts_478 rfl ?_
                            exact r_zret hf hC rfl rfl (by omega) (by omega) dL_scripts_479
                          · have hf := if_T hf h
                            refine r_iconst (v := 1) hC dL_scripts_474 rfl ?_
                            refine r_goto 479 hC dL_scripts_475 (by decide) ?_
                            exact r_zret hf hC rfl rfl (by omega) (by omega) dL_scripts_479
set_option maxRecDepth 20000 in
set_option maxHeartbeats 1000000 in
theorem w_L_scripts_b311 {X : XX} {G : GG} {Z : ZZ} {r : Int32} {M' : Mem}  {k n : Nat} (hC : Cx X G RL cL_scripts (some .boolean) 10 22 132 12) (hz : ZOk G Z) (hZ : ZM Z) (v1 : Int32) (v2 : Int32) (v3 : Int32) (v10 : Int32)    (M : Mem) (hb : k + 11 ≤ 22) (hn : n ≤ 6 * k) (hf : f_L_scripts_b311 v1 v2 v3 v10 M = some (r, M')) : V X G Z M k n (QN X G (QcI G Z r M') 22 132) 311 [(0, .ref (Z.1 0)), (1, .int v1), (2, .int v2), (3, .int v3), (10, .int v10)] [] := by
  unfold f_L_scripts_b311 at hf
  refine r_iconst (v := 0) hC dL_scripts_311 rfl ?_
  exact w_L_scripts_b312 hC hz hZ v1 v2 v3 v10  0 _ (by omega) (by omega) hf
set_option maxRecDepth 20000 in
set_option maxHeartbeats 1000000 in
theorem w_L_scripts_b277 {X : XX} {G : GG} {Z : ZZ} {r : Int32} {M' : Mem}  {k n : Nat} (hC : Cx X G RL cL_scripts (some .boolean) 10 22 132 12) (hz : ZOk G Z) (hZ : ZM Z) (v1 : Int32) (v2 : Int32) (v3 : Int32) (v6 : Int32) (v7 : Int32) (v10 : Int32)   (s0 : Int32) (s1 : Int32) (M : Mem) (hb : k + 12 ≤ 22) (hn : n ≤ 6 * k) (hf : f_L_scripts_b277 v1 v2 v3 v6 v7 v10 s0 s1 M = some (r, M')) : V X G Z M k n (QN X G (QcI G Z r M') 22 132) 277 [(0, .ref (Z.1 0)), (1, .int v1), (2, .int v2), (3, .int v3), (6, .int v6), (7, .int v7), (10, .int v10)] [.int s0, .int s1] := by
  unfold f_L_scripts_b277 at hf
  refine r_icmp_ne 311 hC dL_scripts_277 (by decide) (fun h => ?_) (fun h => ?_)
  · have hf := if_F hf h
    refine r_L [0, 1, 2, 3, 6] rfl ?_
    exact w_L_scripts_b311 hC hz hZ v1 v2 v3 v10   _ (by omega) (by omega) hf
  · have hf := if_T hf h
    refine r_aload_n hC dL_scripts_280 0 rfl ?_
    refine r_iconst (v := 1) hC dL_scripts_281 rfl ?_
    refine r_ldc2 (v := 90004) hC dL_scripts_282 kw_L_211 ?_
    refine r_ldc2 (v := 1000) hC dL_scripts_285 kw_L_201 ?_
    refine r_iload hC dL_scripts_288 4 rfl ?_
    refine r_i2l hC dL_scripts_290 ?_
    refine r_lmul hC dL_scripts_291 ?_
    refine r_ladd hC dL_scripts_292 ?_
    refine r_ldc2 (v := 100) hC dL_scripts_293 kw_L_207 ?_
    refine r_iload hC dL_scripts_296 5 rfl ?_
    refine r_i2l hC dL_scripts_298 ?_
    refine r_lmul hC dL_scripts_299 ?_
    refine r_ladd hC dL_scripts_300 ?_
    refine r_wcall [] (fun r M1 h => c_L_tryScript (cx_st hC) hz hZ 1 ((90004 + (1000 * (Int32.toInt64 v6))) + (100 * (Int32.toInt64 v7))) _ r M1 h) hf cs_L_170 hC rfl rfl (by decide) (by decide) (Nat.le_of_ble_eq_true rfl) (by omega) (by omega) dL_scripts_301 (fun x45 M46 hf => ?_)
    refine r_if_ne 311 hC dL_scripts_304 (by decide) (fun h => ?_) (fun h => ?_)
    · have hf := if_F hf h
      refine r_L [0, 1, 2, 3, 6] rfl ?_
      exact w_L_scripts_b311 hC hz hZ v1 v2 v3 v10   _ (by omega) (by omega) hf
    · have hf := if_T hf h
      refine r_iconst (v := 1) hC dL_scripts_307 rfl ?_
      refine r_goto 312 hC dL_scripts_308 (by decide) ?_
      refine r_L [0, 1, 2, 3, 6] rfl ?_
      exact w_L_scripts_b312 hC hz hZ v1 v2 v3 v10  1 _ (by omega) (by omega) hf
set_option maxRecDepth 20000 in
set_option maxHeartbeats 1000000 in
theorem w_L_scripts_b259 {X : XX} {G : GG} {Z : ZZ} {r : Int32} {M' : Mem}  {k n : Nat} (hC : Cx X G RL cL_scripts (some .boolean) 10 22 132 12) (hz : ZOk G Z) (hZ : ZM Z) (v1 : Int32) (v2 : Int32) (v3 : Int32) (v6 : Int32) (v7 : Int32) (v9 : Int32) (v10 : Int32)   (s0 : Int32) (s1 : Int64) (s2 : Int32) (M : Mem) (hb : k + 13 ≤ 22) (hn : n ≤ 6 * k) (hf : f_L_scripts_b259 v1 v2 v3 v6 v7 v9 v10 s0 s1 s2 M = some (r, M')) : V X G Z M k n (QN X G (QcI G Z r M') 22 132) 259 [(0, .ref (Z.1 0)), (1, .int v1), (2, .int v2), (3, .int v3), (6, .int v6), (7, .int v7), (9, .int v9), (10, .int v10)] [.int s0, .long s1, .int s2, .ref (Z.1 0)] := by
  unfold f_L_scripts_b259 at hf
  refine r_i2l hC dL_scripts_259 ?_
  refine r_ladd hC dL_scripts_260 ?_
  refine r_wcall [] (fun r M1 h => c_L_tryScript (cx_st hC) hz hZ s2 (s1 + (Int32.toInt64 s0)) _ r M1 h) hf cs_L_170 hC rfl rfl (by decide) (by decide) (Nat.le_of_ble_eq_true rfl) (by omega) (by omega) dL_scripts_261 (fun x43 M44 hf => ?_)
  refine r_iload hC dL_scripts_264 6 rfl ?_
  refine r_bipush (v := (-9)) hC dL_scripts_266 rfl ?_
  refine r_icmp_ne 275 hC dL_scripts_268 (by decide) (fun h => ?_) (fun h => ?_)
  · have hf := if_F hf h
    refine r_bipush (v := (-9)) hC dL_scripts_275 rfl ?_
    refine r_L [0, 1, 2, 3, 4, 5, 7] rfl ?_
    exact w_L_scripts_b277 hC hz hZ v1 v2 v3 v6 v7 v10  (-9) x43 _ (by omega) (by omega) hf
  · have hf := if_T hf h
    refine r_iconst (v := 0) hC dL_scripts_271 rfl ?_
    refine r_goto 277 hC dL_scripts_272 (by decide) ?_
    refine r_L [0, 1, 2, 3, 4, 5, 7] rfl ?_
    exact w_L_scripts_b277 hC hz hZ v1 v2 v3 v6 v7 v10  0 x43 _ (by omega) (by omega) hf
set_option maxRecDepth 20000 in
set_option maxHeartbeats 1000000 in
theorem w_L_scripts_b225 {X : XX} {G : GG} {Z : ZZ} {r : Int32} {M' : Mem}  {k n : Nat} (hC : Cx X G RL cL_scripts (some .boolean) 10 22 132 12) (hz : ZOk G Z) (hZ : ZM Z) (v1 : Int32) (v2 : Int32) (v3 : Int32) (v6 : Int32) (v7 : Int32) (v9 : Int32) (v10 : Int32)    (M : Mem) (hb : k + 13 ≤ 22) (hn : n ≤ 6 * k) (hf : f_L_scripts_b225 v1 v2 v3 v6 v7 v9 v10 M = some (r, M')) : V X G Z M k n (QN X G (QcI G Z r M') 22 132) 225 [(0, .ref (Z.1 0)), (1, .int v1), (2, .int v2), (3, .int v3), (6, .int v6), (7, .int v7), (9, .int v9), (10, .int v10)] [] := by
  unfold f_L_scripts_b225 at hf
  refine r_aload_n hC dL_scripts_225 0 rfl ?_
  refine r_iconst (v := 1) hC dL_scripts_226 rfl ?_
  refine r_ldc2 (v := 90000) hC dL_scripts_227 kw_L_209 ?_
  refine r_ldc2 (v := 1000) hC dL_scripts_230 kw_L_201 ?_
  refine r_iload hC dL_scripts_233 4 rfl ?_
  refine r_i2l hC dL_scripts_235 ?_
  refine r_lmul hC dL_scripts_236 ?_
  refine r_ladd hC dL_scripts_237 ?_
  refine r_ldc2 (v := 100) hC dL_scripts_238 kw_L_207 ?_
  refine r_iload hC dL_scripts_241 5 rfl ?_
  refine r_i2l hC dL_scripts_243 ?_
  refine r_lmul hC dL_scripts_244 ?_
  refine r_ladd hC dL_scripts_245 ?_
  refine r_iload hC dL_scripts_246 6 rfl ?_
  refine r_bipush (v := (-9)) hC dL_scripts_248 rfl ?_
  refine r_icmp_ne 257 hC dL_scripts_250 (by decide) (fun h => ?_) (fun h => ?_)
  · have hf := if_F hf h
    refine r_iload hC dL_scripts_257 6 rfl ?_
    exact w_L_scripts_b259 hC hz hZ v1 v2 v3 v6 v7 v9 v10  v9 ((90000 + (1000 * (Int32.toInt64 v6))) + (100 * (Int32.toInt64 v7))) 1 _ (by omega) (by omega) hf
  · have hf := if_T hf h
    refine r_iconst (v := 0) hC dL_scripts_253 rfl ?_
    refine r_goto 259 hC dL_scripts_254 (by decide) ?_
    exact w_L_scripts_b259 hC hz hZ v1 v2 v3 v6 v7 v9 v10  0 ((90000 + (1000 * (Int32.toInt64 v6))) + (100 * (Int32.toInt64 v7))) 1 _ (by omega) (by omega) hf
set_option maxRecDepth 20000 in
set_option maxHeartbeats 1000000 in
theorem w_L_scripts_b155 {X : XX} {G : GG} {Z : ZZ} {r : Int32} {M' : Mem}  {k n : Nat} (hC : Cx X G RL cL_scripts (some .boolean) 10 22 132 12) (hz : ZOk G Z) (hZ : ZM Z) (v1 : Int32) (v2 : Int32) (v3 : Int32) (v6 : Int32) (v7 : Int32) (v8 : Int32) (v9 : Int32) (v10 : Int32)    (M : Mem) (hb : k + 14 ≤ 22) (hn : n ≤ 6 * k) (hf : f_L_scripts_b155 v1 v2 v3 v6 v7 v8 v9 v10 M = some (r, M')) : V X G Z M k n (QN X G (QcI G Z r M') 22 132) 155 [(0, .ref (Z.1 0)), (1, .int v1), (2, .int v2), (3, .int v3), (6, .int v6), (7, .int v7), (8, .int v8), (9, .int v9), (10, .int v10)] [] := by
  unfold f_L_scripts_b155 at hf
  refine r_iload hC dL_scripts_155 6 rfl ?_
  refine r_bipush (v := (-9)) hC dL_scripts_157 rfl ?_
  refine r_icmp_ne 192 hC dL_scripts_159 (by decide) (fun h => ?_) (fun h => ?_)
  · have hf := if_F hf h
    refine r_aload_n hC dL_scripts_192 0 rfl ?_
    refine r_iconst (v := 1) hC dL_scripts_193 rfl ?_
    refine r_ldc2 (v := 80000) hC dL_scripts_194 kw_L_205 ?_
    refine r_ldc2 (v := 1000) hC dL_scripts_197 kw_L_201 ?_
    refine r_iload hC dL_scripts_200 4 rfl ?_
    refine r_i2l hC dL_scripts_202 ?_
    refine r_lmul hC dL_scripts_203 ?_
    refine r_ladd hC dL_scripts_204 ?_
    refine r_ldc2 (v := 100) hC dL_scripts_205 kw_L_207 ?_
    refine r_iload hC dL_scripts_208 5 rfl ?_
    refine r_i2l hC dL_scripts_210 ?_
    refine r_lmul hC dL_scripts_211 ?_
    refine r_ladd hC dL_scripts_212 ?_
    refine r_iload hC dL_scripts_213 6 rfl ?_
    refine r_i2l hC dL_scripts_215 ?_
    refine r_ladd hC dL_scripts_216 ?_
    refine r_wcall [] (fun r M1 h => c_L_tryScript (cx_st hC) hz hZ 1 (((80000 + (1000 * (Int32.toInt64 v6))) + (100 * (Int32.toInt64 v7))) + (Int32.toInt64 v8)) _ r M1 h) hf cs_L_170 hC rfl rfl (by decide) (by decide) (Nat.le_of_ble_eq_true rfl) (by omega) (by omega) dL_scripts_217 (fun x17 M18 hf => ?_)
    refine r_bipush (v := (-9)) hC dL_scripts_220 rfl ?_
    refine r_icmp_ne 311 hC dL_scripts_222 (by decide) (fun h => ?_) (fun h => ?_)
    · have hf := if_F hf h
      refine r_L [0, 1, 2, 3, 8] rfl ?_
      exact w_L_scripts_b311 hC hz hZ v1 v2 v3 v10   _ (by omega) (by omega) hf
    · have hf := if_T hf h
      refine r_L [0, 1, 2, 3, 4, 5, 7, 8] rfl ?_
      exact w_L_scripts_b225 hC hz hZ v1 v2 v3 v6 v7 v9 v10   _ (by omega) (by omega) hf
  · have hf := if_T hf h
    refine r_aload_n hC dL_scripts_162 0 rfl ?_
    refine r_iconst (v := 1) hC dL_scripts_163 rfl ?_
    refine r_ldc2 (v := 80000) hC dL_scripts_164 kw_L_205 ?_
    refine r_ldc2 (v := 1000) hC dL_scripts_167 kw_L_201 ?_
    refine r_iload hC dL_scripts_170 4 rfl ?_
    refine r_i2l hC dL_scripts_172 ?_
    refine r_lmul hC dL_scripts_173 ?_
    refine r_ladd hC dL_scripts_174 ?_
    refine r_ldc2 (v := 100) hC dL_scripts_175 kw_L_207 ?_
    refine r_iload hC dL_scripts_178 5 rfl ?_
    refine r_i2l hC dL_scripts_180 ?_
    refine r_lmul hC dL_scripts_181 ?_
    refine r_ladd hC dL_scripts_182 ?_
    refine r_wcall [] (fun r M1 h => c_L_tryScript (cx_st hC) hz hZ 1 ((80000 + (1000 * (Int32.toInt64 v6))) + (100 * (Int32.toInt64 v7))) _ r M1 h) hf cs_L_170 hC rfl rfl (by decide) (by decide) (Nat.le_of_ble_eq_true rfl) (by omega) (by omega) dL_scripts_183 (fun x19 M20 hf => ?_)
    refine r_if_ne 311 hC dL_scripts_186 (by decide) (fun h => ?_) (fun h => ?_)
    · have hf := if_F hf h
      refine r_L [0, 1, 2, 3, 8] rfl ?_
      exact w_L_scripts_b311 hC hz hZ v1 v2 v3 v10   _ (by omega) (by omega) hf
    · have hf := if_T hf h
      refine r_goto 225 hC dL_scripts_189 (by decide) ?_
      refine r_L [0, 1, 2, 3, 4, 5, 7, 8] rfl ?_
      exact w_L_scripts_b225 hC hz hZ v1 v2 v3 v6 v7 v9 v10   _ (by omega) (by omega) hf
set_option maxRecDepth 20000 in
set_option maxHeartbeats 1000000 in
theorem w_L_scripts_b124 {X : XX} {G : GG} {Z : ZZ} {r : Int32} {M' : Mem}  {k n : Nat} (hC : Cx X G RL cL_scripts (some .boolean) 10 22 132 12) (hz : ZOk G Z) (hZ : ZM Z) (v1 : Int32) (v2 : Int32) (v3 : Int32) (v4 : Int32) (v5 : Int32) (v6 : Int32) (v7 : Int32) (v8 : Int32) (v9 : Int32) (v10 : Int32)    (M : Mem) (hb : k + 15 ≤ 22) (hn : n ≤ 6 * k) (hf : f_L_scripts_b124 v1 v2 v3 v4 v5 v6 v7 v8 v9 v10 M = some (r, M')) : V X G Z M k n (QN X G (QcI G Z r M') 22 132) 124 [(0, .ref (Z.1 0)), (1, .int v1), (2, .int v2), (3, .int v3), (4, .int v4), (5, .int v5), (6, .int v6), (7, .int v7), (8, .int v8), (9, .int v9), (10, .int v10)] [] := by
  unfold f_L_scripts_b124 at hf
  refine r_iload hC dL_scripts_124 5 rfl ?_
  refine r_sipush (v := 998) hC dL_scripts_126 rfl ?_
  refine r_icmp_gt 155 hC dL_scripts_129 (by decide) (fun h => ?_) (fun h => ?_)
  · have hf := if_T hf h
    refine r_L [0, 1, 2, 3, 6, 7, 8, 9, 10] rfl ?_
    exact w_L_scripts_b155 hC hz hZ v1 v2 v3 v6 v7 v8 v9 v10   _ (by omega) (by omega) hf
  · have hf := if_F hf h
    refine r_aload_n hC dL_scripts_132 0 rfl ?_
    refine r_iconst (v := 1) hC dL_scripts_133 rfl ?_
    refine r_ldc2 (v := 70001) hC dL_scripts_134 kw_L_203 ?_
    refine r_ldc2 (v := 1000) hC dL_scripts_137 kw_L_201 ?_
    refine r_iload hC dL_scripts_140 4 rfl ?_
    refine r_i2l hC dL_scripts_142 ?_
    refine r_lmul hC dL_scripts_143 ?_
    refine r_ladd hC dL_scripts_144 ?_
    refine r_iload hC dL_scripts_145 5 rfl ?_
    refine r_i2l hC dL_scripts_147 ?_
    refine r_ladd hC dL_scripts_148 ?_
    refine r_wcall [] (fun r M1 h => c_L_tryScript (cx_st hC) hz hZ 1 ((70001 + (1000 * (Int32.toInt64 v4))) + (Int32.toInt64 v5)) _ r M1 h) hf cs_L_170 hC rfl rfl (by decide) (by decide) (Nat.le_of_ble_eq_true rfl) (by omega) (by omega) dL_scripts_149 (fun x15 M16 hf => ?_)
    refine r_if_ne 311 hC dL_scripts_152 (by decide) (fun h => ?_) (fun h => ?_)
    · have hf := if_F hf h
      refine r_L [0, 1, 2, 3, 10] rfl ?_
      exact w_L_scripts_b311 hC hz hZ v1 v2 v3 v10   _ (by omega) (by omega) hf
    · have hf := if_T hf h
      refine r_L [0, 1, 2, 3, 6, 7, 8, 9, 10] rfl ?_
      exact w_L_scripts_b155 hC hz hZ v1 v2 v3 v6 v7 v8 v9 v10   _ (by omega) (by omega) hf
set_option maxRecDepth 20000 in
set_option maxHeartbeats 1000000 in
theorem w_L_scripts_b52 {X : XX} {G : GG} {Z : ZZ} {r : Int32} {M' : Mem}  {k n : Nat} (hC : Cx X G RL cL_scripts (some .boolean) 10 22 132 12) (hz : ZOk G Z) (hZ : ZM Z) (v1 : Int32) (v2 : Int32) (v3 : Int32) (v4 : Int32) (v5 : Int32) (v6 : Int32)   (s0 : Int32) (s1 : Int32) (M : Mem) (hb : k + 19 ≤ 22) (hn : n ≤ 6 * k) (hf : f_L_scripts_b52 v1 v2 v3 v4 v5 v6 s0 s1 M = some (r, M')) : V X G Z M k n (QN X G (QcI G Z r M') 22 132) 52 [(0, .ref (Z.1 0)), (1, .int v1), (2, .int v2), (3, .int v3), (4, .int v4), (5, .int v5), (6, .int v6)] [.int s0, .int s1] := by
  unfold f_L_scripts_b52 at hf
  have hne := if_K hf
  have hf := if_V hf
  refine r_irem hC dL_scripts_52 hne ?_
  refine r_istore (L' := [(7, .int (s1 - s1 / s0 * s0)), (0, .ref (Z.1 0)), (1, .int v1), (2, .int v2), (3, .int v3), (4, .int v4), (5, .int v5), (6, .int v6)]) hC dL_scripts_53 (by decide) rfl ?_
  refine r_aload_n hC dL_scripts_55 1 rfl ?_
  refine r_iload hC dL_scripts_56 7 rfl ?_
  refine r_iload hC dL_scripts_58 0 rfl ?_
  refine r_iconst (v := 0) hC dL_scripts_60 rfl ?_
  refine r_wcall [] (fun r M1 h => c_L_tryNote (cx_st hC) hz hZ v6 (s1 - s1 / s0 * s0) 0 _ r M1 h) hf cs_L_155 hC rfl rfl (by decide) (by decide) (Nat.le_of_ble_eq_true rfl) (by omega) (by omega) dL_scripts_61 (fun x7 M8 hf => ?_)
  refine r_istore (L' := [(8, .int x7), (7, .int (s1 - s1 / s0 * s0)), (0, .ref (Z.1 0)), (1, .int v1), (2, .int v2), (3, .int v3), (4, .int v4), (5, .int v5), (6, .int v6)]) hC dL_scripts_64 (by decide) rfl ?_
  refine r_aload_n hC dL_scripts_66 2 rfl ?_
  refine r_iload hC dL_scripts_67 8 rfl ?_
  refine r_iload hC dL_scripts_69 1 rfl ?_
  refine r_iconst (v := 1) hC dL_scripts_71 rfl ?_
  refine r_wcall [] (fun r M1 h => c_L_tryNote (cx_st hC) hz hZ v6 (s1 - s1 / s0 * s0) 1 _ r M1 h) hf cs_L_155 hC rfl rfl (by decide) (by decide) (Nat.le_of_ble_eq_true rfl) (by omega) (by omega) dL_scripts_72 (fun x9 M10 hf => ?_)
  refine r_istore (L' := [(9, .int x9), (8, .int x7), (7, .int (s1 - s1 / s0 * s0)), (0, .ref (Z.1 0)), (1, .int v1), (2, .int v2), (3, .int v3), (4, .int v4), (5, .int v5), (6, .int v6)]) hC dL_scripts_75 (by decide) rfl ?_
  refine r_aload_n hC dL_scripts_77 3 rfl ?_
  refine r_iload_n hC dL_scripts_78 4 rfl ?_
  refine r_i2l hC dL_scripts_79 ?_
  refine r_ldc2 (v := 101) hC dL_scripts_80 kw_L_197 ?_
  refine r_lmul hC dL_scripts_83 ?_
  refine r_bipush (v := 6) hC dL_scripts_84 rfl ?_
  refine r_wcall [] (fun r M1 h => c_L_trySimulate (cx_st hC) hz hZ ((Int32.toInt64 v1) * 101) 6 _ r M1 h) hf cs_L_176 hC rfl rfl (by decide) (by decide) (Nat.le_of_ble_eq_true rfl) (by omega) (by omega) dL_scripts_86 (fun x11 M12 hf => ?_)
  refine r_istore (L' := [(10, .int x11), (9, .int x9), (8, .int x7), (7, .int (s1 - s1 / s0 * s0)), (0, .ref (Z.1 0)), (1, .int v1), (2, .int v2), (3, .int v3), (4, .int v4), (5, .int v5), (6, .int v6)]) hC dL_scripts_89 (by decide) rfl ?_
  refine r_iload hC dL_scripts_91 9 rfl ?_
  refine r_sipush (v := 999) hC dL_scripts_93 rfl ?_
  refine r_icmp_gt 124 hC dL_scripts_96 (by decide) (fun h => ?_) (fun h => ?_)
  · have hf := if_T hf h
    refine r_L [4, 5, 6, 7, 8, 9, 10, 3, 2, 1, 0] rfl ?_
    exact w_L_scripts_b124 hC hz hZ v1 v2 v3 v4 v5 v6 (s1 - s1 / s0 * s0) x7 x9 x11   _ (by omega) (by omega) hf
  · have hf := if_F hf h
    refine r_aload_n hC dL_scripts_99 4 rfl ?_
    refine r_iconst (v := 1) hC dL_scripts_100 rfl ?_
    refine r_ldc2 (v := 70000) hC dL_scripts_101 kw_L_199 ?_
    refine r_ldc2 (v := 1000) hC dL_scripts_104 kw_L_201 ?_
    refine r_iload hC dL_scripts_107 8 rfl ?_
    refine r_i2l hC dL_scripts_109 ?_
    refine r_lmul hC dL_scripts_110 ?_
    refine r_ladd hC dL_scripts_111 ?_
    refine r_iload hC dL_scripts_112 9 rfl ?_
    refine r_i2l hC dL_scripts_114 ?_
    refine r_ladd hC dL_scripts_115 ?_
    refine r_wcall [] (fun r M1 h => c_L_tryScript (cx_st hC) hz hZ 1 ((70000 + (1000 * (Int32.toInt64 v4))) + (Int32.toInt64 v5)) _ r M1 h) hf cs_L_170 hC rfl rfl (by decide) (by decide) (Nat.le_of_ble_eq_true rfl) (by omega) (by omega) dL_scripts_116 (fun x13 M14 hf => ?_)
    refine r_bipush (v := (-9)) hC dL_scripts_119 rfl ?_
    refine r_icmp_ne 311 hC dL_scripts_121 (by decide) (fun h => ?_) (fun h => ?_)
    · have hf := if_F hf h
      refine r_L [4, 5, 6, 7, 0] rfl ?_
      exact w_L_scripts_b311 hC hz hZ v1 v2 v3 x11   _ (by omega) (by omega) hf
    · have hf := if_T hf h
      refine r_L [4, 5, 6, 7, 8, 9, 10, 3, 2, 1, 0] rfl ?_
      exact w_L_scripts_b124 hC hz hZ v1 v2 v3 v4 v5 v6 (s1 - s1 / s0 * s0) x7 x9 x11   _ (by omega) (by omega) hf
set_option maxRecDepth 20000 in
set_option maxHeartbeats 1000000 in
theorem w_L_scripts {X : XX} {G : GG} {Z : ZZ} (hC : Cx X G RL cL_scripts (some .boolean) 10 22 132 12) (hz : ZOk G Z) (hZ : ZM Z) (v1 : Int32) (M : Mem) {r : Int32} {M' : Mem} (hf : f_L_scripts v1 M = some (r, M')) : V X G Z M 0 0 (QN X G (QcI G Z r M') 22 132) 0 [(0, .ref (Z.1 0)), (1, .int v1)] [] := by
  have hb : 0 + 22 ≤ 22 := Nat.le_refl _
  have hn : 0 ≤ 6 * 0 := Nat.le_refl _
  unfold f_L_scripts at hf
  refine r_aload_n hC dL_scripts_0 0 rfl ?_
  refine r_bipush (v := 6) hC dL_scripts_1 rfl ?_
  refine r_wcall [] (fun r M1 h => c_L_tryAbout (cx_st hC) hz hZ 6 _ r M1 h) hf cs_L_115 hC rfl rfl (by decide) (by decide) (Nat.le_of_ble_eq_true rfl) (by omega) (by omega) dL_scripts_3 (fun x1 M2 hf => ?_)
  refine r_istore_n (L' := [(2, .int x1), (0, .ref (Z.1 0)), (1, .int v1)]) hC dL_scripts_6 (by decide) rfl ?_
  refine r_aload_n hC dL_scripts_7 1 rfl ?_
  refine r_bipush (v := 7) hC dL_scripts_8 rfl ?_
  refine r_wcall [] (fun r M1 h => c_L_tryAbout (cx_st hC) hz hZ 7 _ r M1 h) hf cs_L_115 hC rfl rfl (by decide) (by decide) (Nat.le_of_ble_eq_true rfl) (by omega) (by omega) dL_scripts_10 (fun x3 M4 hf => ?_)
  refine r_istore_n (L' := [(3, .int x3), (2, .int x1), (0, .ref (Z.1 0)), (1, .int v1)]) hC dL_scripts_13 (by decide) rfl ?_
  refine r_iload_n hC dL_scripts_14 3 rfl ?_
  refine r_bipush (v := 8) hC dL_scripts_15 rfl ?_
  refine r_irem hC dL_scripts_17 (by decide) ?_
  refine r_istore (L' := [(4, .int (v1 - v1 / 8 * 8)), (3, .int x3), (2, .int x1), (0, .ref (Z.1 0)), (1, .int v1)]) hC dL_scripts_18 (by decide) rfl ?_
  refine r_aload_n hC dL_scripts_20 3 rfl ?_
  refine r_iload hC dL_scripts_21 0 rfl ?_
  refine r_wcall [] (fun r M1 h => c_L_tryWhole (cx_st hC) hz hZ (v1 - v1 / 8 * 8) _ r M1 h) hf cs_L_124 hC rfl rfl (by decide) (by decide) (Nat.le_of_ble_eq_true rfl) (by omega) (by omega) dL_scripts_23 (fun x5 M6 hf => ?_)
  refine r_istore (L' := [(5, .int x5), (4, .int (v1 - v1 / 8 * 8)), (3, .int x3), (2, .int x1), (0, .ref (Z.1 0)), (1, .int v1)]) hC dL_scripts_26 (by decide) rfl ?_
  refine r_iload_n hC dL_scripts_28 5 rfl ?_
  refine r_bipush (v := 8) hC dL_scripts_29 rfl ?_
  refine r_idiv hC dL_scripts_31 (by decide) ?_
  refine r_iload_n hC dL_scripts_32 3 rfl ?_
  have hne := if_K hf
  have hf := if_V hf
  refine r_irem hC dL_scripts_33 hne ?_
  refine r_istore (L' := [(6, .int ((v1 / 8) - (v1 / 8) / x1 * x1)), (5, .int x5), (4, .int (v1 - v1 / 8 * 8)), (3, .int x3), (2, .int x1), (0, .ref (Z.1 0)), (1, .int v1)]) hC dL_scripts_34 (by decide) rfl ?_
  refine r_iload_n hC dL_scripts_36 6 rfl ?_
  refine r_bipush (v := 64) hC dL_scripts_37 rfl ?_
  refine r_idiv hC dL_scripts_39 (by decide) ?_
  refine r_iload_n hC dL_scripts_40 3 rfl ?_
  refine r_bipush (v := 10) hC dL_scripts_41 rfl ?_
  refine r_icmp_ge 50 hC dL_scripts_43 (by decide) (fun h => ?_) (fun h => ?_)
  · have hf := if_T hf h
    refine r_bipush (v := 10) hC dL_scripts_50 rfl ?_
    refine r_L [5, 6, 4, 3, 2, 1, 0] rfl ?_
    exact w_L_scripts_b52 hC hz hZ v1 x1 x3 (v1 - v1 / 8 * 8) x5 ((v1 / 8) - (v1 / 8) / x1 * x1)  10 (v1 / 64) _ (by omega) (by omega) hf
  · have hf := if_F hf h
    refine r_iload_n hC dL_scripts_46 3 rfl ?_
    refine r_goto 52 hC dL_scripts_47 (by decide) ?_
    refine r_L [5, 6, 4, 3, 2, 1, 0] rfl ?_
    exact w_L_scripts_b52 hC hz hZ v1 x1 x3 (v1 - v1 / 8 * 8) x5 ((v1 / 8) - (v1 / 8) / x1 * x1)  x3 (v1 / 64) _ (by omega) (by omega) hf
set_option maxRecDepth 20000 in
set_option maxHeartbeats 1000000 in
theorem c_L_scripts {l : Launch} (hl : l.stackTraces = false) {G : GG} {Z : ZZ} (hz : ZOk G Z) (hZ : ZM Z) (v1 : Int32) (M : Mem) (r : Int32) (M' : Mem) (hf : f_L_scripts v1 M = some (r, M')) : CC (QcI G Z r M') l G Z yL_scripts cL_scripts 12 (some .boolean) 10 22 132 [.ref (Z.1 0), .int v1] M :=
  CC.of [(0, .ref (Z.1 0)), (1, .int v1)] hl (by decide +kernel) (Nat.le_of_ble_eq_true rfl) rfl (fun _ hC => w_L_scripts hC hz hZ v1 M hf)
set_option maxRecDepth 20000 in
set_option maxHeartbeats 1000000 in
theorem w_L_act_b151 {X : XX} {G : GG} {Z : ZZ} {r : Int32} {M' : Mem}  {k n : Nat} (hC : Cx X G RL cL_act (some .int) 10 3 18 7) (hz : ZOk G Z) (hZ : ZM Z)    (s0 : Int32) (s1 : Int32) (s2 : Int32) (M : Mem) (hb : k + 1 ≤ 3) (hn : n ≤ 6 * k) (hf : f_L_act_b151 s0 s1 s2 M = some (r, M')) : V X G Z M k n (QN X G (QcI G Z r M') 3 18) 151 [] [.int s0, .int s1, .int s2, .ref (Z.1 0)] := by
  unfold f_L_act_b151 at hf
  refine r_wcall [] (fun r M1 h => c_L_tryWrite (cx_st hC) hz hZ s2 s1 s0 _ r M1 h) hf cs_L_135 hC rfl rfl (by decide) (by decide) (Nat.le_of_ble_eq_true rfl) (by omega) (by omega) dL_act_151 (fun x27 M28 hf => ?_)
  exact r_iret hf hC (by omega) (by omega) dL_act_154
set_option maxRecDepth 20000 in
set_option maxHeartbeats 1000000 in
theorem w_L_act_b108 {X : XX} {G : GG} {Z : ZZ} {r : Int32} {M' : Mem}  {k n : Nat} (hC : Cx X G RL cL_act (some .int) 10 3 18 7) (hz : ZOk G Z) (hZ : ZM Z) (v2 : Int32) (v5 : Int32) (v6 : Int32)    (M : Mem) (hb : k + 1 ≤ 3) (hn : n ≤ 6 * k) (hf : f_L_act_b108 v2 v5 v6 M = some (r, M')) : V X G Z M k n (QN X G (QcI G Z r M') 3 18) 108 [(0, .ref (Z.1 0)), (2, .int v2), (5, .int v5), (6, .int v6)] [] := by
  unfold f_L_act_b108 at hf
  refine r_aload_n hC dL_act_108 0 rfl ?_
  refine r_iload hC dL_act_109 2 rfl ?_
  refine r_iload hC dL_act_111 3 rfl ?_
  refine r_iload_n hC dL_act_113 1 rfl ?_
  refine r_sipush (v := 128) hC dL_act_114 rfl ?_
  refine r_idiv hC dL_act_117 (by decide) ?_
  refine r_iconst (v := 5) hC dL_act_118 rfl ?_
  refine r_irem hC dL_act_119 (by decide) ?_
  refine r_if_ne 128 hC dL_act_120 (by decide) (fun h => ?_) (fun h => ?_)
  · have hf := if_F hf h
    refine r_iload_n hC dL_act_128 1 rfl ?_
    refine r_sipush (v := 128) hC dL_act_129 rfl ?_
    refine r_idiv hC dL_act_132 (by decide) ?_
    refine r_iconst (v := 5) hC dL_act_133 rfl ?_
    refine r_irem hC dL_act_134 (by decide) ?_
    refine r_iconst (v := 1) hC dL_act_135 rfl ?_
    refine r_icmp_ne 143 hC dL_act_136 (by decide) (fun h => ?_) (fun h => ?_)
    · have hf := if_F hf h
      refine r_iload_n hC dL_act_143 1 rfl ?_
      refine r_sipush (v := 1024) hC dL_act_144 rfl ?_
      refine r_idiv hC dL_act_147 (by decide) ?_
      refine r_bipush (v := 61) hC dL_act_148 rfl ?_
      refine r_irem hC dL_act_150 (by decide) ?_
      refine r_L [] rfl ?_
      exact w_L_act_b151 hC hz hZ   ((v2 / 1024) - (v2 / 1024) / 61 * 61) v6 v5 _ (by omega) (by omega) hf
    · have hf := if_T hf h
      refine r_iconst (v := (-1)) hC dL_act_139 rfl ?_
      refine r_goto 151 hC dL_act_140 (by decide) ?_
      refine r_L [] rfl ?_
      exact w_L_act_b151 hC hz hZ   (-1) v6 v5 _ (by omega) (by omega) hf
  · have hf := if_T hf h
    refine r_bipush (v := 99) hC dL_act_123 rfl ?_
    refine r_goto 151 hC dL_act_125 (by decide) ?_
    refine r_L [] rfl ?_
    exact w_L_act_b151 hC hz hZ   99 v6 v5 _ (by omega) (by omega) hf
set_option maxRecDepth 20000 in
set_option maxHeartbeats 1000000 in
theorem w_L_act_b197 {X : XX} {G : GG} {Z : ZZ} {r : Int32} {M' : Mem}  {k n : Nat} (hC : Cx X G RL cL_act (some .int) 10 3 18 7) (hz : ZOk G Z) (hZ : ZM Z)    (s0 : Int32) (M : Mem) (hb : k + 1 ≤ 3) (hn : n ≤ 6 * k) (hf : f_L_act_b197 s0 M = some (r, M')) : V X G Z M k n (QN X G (QcI G Z r M') 3 18) 197 [] [.int s0, .ref (Z.1 0)] := by
  unfold f_L_act_b197 at hf
  refine r_wcall [] (fun r M1 h => c_L_tryStaff (cx_st hC) hz hZ s0 _ r M1 h) hf cs_L_145 hC rfl rfl (by decide) (by decide) (Nat.le_of_ble_eq_true rfl) (by omega) (by omega) dL_act_197 (fun x23 M24 hf => ?_)
  exact r_iret hf hC (by omega) (by omega) dL_act_200
set_option maxRecDepth 20000 in
set_option maxHeartbeats 1000000 in
theorem w_L_act_b222 {X : XX} {G : GG} {Z : ZZ} {r : Int32} {M' : Mem}  {k n : Nat} (hC : Cx X G RL cL_act (some .int) 10 3 18 7) (hz : ZOk G Z) (hZ : ZM Z) (v2 : Int32)    (M : Mem) (hb : k + 1 ≤ 3) (hn : n ≤ 6 * k) (hf : f_L_act_b222 v2 M = some (r, M')) : V X G Z M k n (QN X G (QcI G Z r M') 3 18) 222 [(0, .ref (Z.1 0)), (2, .int v2)] [] := by
  unfold f_L_act_b222 at hf
  refine r_aload_n hC dL_act_222 0 rfl ?_
  refine r_iload_n hC dL_act_223 1 rfl ?_
  refine r_iconst (v := 2) hC dL_act_224 rfl ?_
  refine r_irem hC dL_act_225 (by decide) ?_
  refine r_iconst (v := 1) hC dL_act_226 rfl ?_
  refine r_iload_n hC dL_act_227 1 rfl ?_
  refine r_bipush (v := 8) hC dL_act_228 rfl ?_
  refine r_idiv hC dL_act_230 (by decide) ?_
  refine r_bipush (v := 24) hC dL_act_231 rfl ?_
  refine r_irem hC dL_act_233 (by decide) ?_
  refine r_iadd hC dL_act_234 ?_
  refine r_wcall [] (fun r M1 h => c_L_trySet (cx_st hC) hz hZ (v2 - v2 / 2 * 2) (1 + ((v2 / 8) - (v2 / 8) / 24 * 24)) _ r M1 h) hf cs_L_131 hC rfl rfl (by decide) (by decide) (Nat.le_of_ble_eq_true rfl) (by omega) (by omega) dL_act_235 (fun x25 M26 hf => ?_)
  exact r_iret hf hC (by omega) (by omega) dL_act_238
set_option maxRecDepth 20000 in
set_option maxHeartbeats 1000000 in
theorem w_L_act {X : XX} {G : GG} {Z : ZZ} (hC : Cx X G RL cL_act (some .int) 10 3 18 7) (hz : ZOk G Z) (hZ : ZM Z) (v1 : Int32) (v2 : Int32) (M : Mem) {r : Int32} {M' : Mem} (hf : f_L_act v1 v2 M = some (r, M')) : V X G Z M 0 0 (QN X G (QcI G Z r M') 3 18) 0 [(0, .ref (Z.1 0)), (1, .int v1), (2, .int v2)] [] := by
  have hb : 0 + 3 ≤ 3 := Nat.le_refl _
  have hn : 0 ≤ 6 * 0 := Nat.le_refl _
  unfold f_L_act at hf
  refine r_aload_n hC dL_act_0 0 rfl ?_
  refine r_bipush (v := 6) hC dL_act_1 rfl ?_
  refine r_wcall [] (fun r M1 h => c_L_tryAbout (cx_st hC) hz hZ 6 _ r M1 h) hf cs_L_115 hC rfl rfl (by decide) (by decide) (Nat.le_of_ble_eq_true rfl) (by omega) (by omega) dL_act_3 (fun x1 M2 hf => ?_)
  refine r_istore_n (L' := [(3, .int x1), (0, .ref (Z.1 0)), (1, .int v1), (2, .int v2)]) hC dL_act_6 (by decide) rfl ?_
  refine r_aload_n hC dL_act_7 1 rfl ?_
  refine r_bipush (v := 7) hC dL_act_8 rfl ?_
  refine r_wcall [] (fun r M1 h => c_L_tryAbout (cx_st hC) hz hZ 7 _ r M1 h) hf cs_L_115 hC rfl rfl (by decide) (by decide) (Nat.le_of_ble_eq_true rfl) (by omega) (by omega) dL_act_10 (fun x3 M4 hf => ?_)
  refine r_istore (L' := [(4, .int x3), (3, .int x1), (0, .ref (Z.1 0)), (1, .int v1), (2, .int v2)]) hC dL_act_13 (by decide) rfl ?_
  refine r_iload_n hC dL_act_15 4 rfl ?_
  refine r_iload_n hC dL_act_16 1 rfl ?_
  have hne := if_K hf
  have hf := if_V hf
  refine r_irem hC dL_act_17 hne ?_
  refine r_istore (L' := [(5, .int (v2 - v2 / x1 * x1)), (4, .int x3), (3, .int x1), (0, .ref (Z.1 0)), (1, .int v1), (2, .int v2)]) hC dL_act_18 (by decide) rfl ?_
  refine r_iload_n hC dL_act_20 5 rfl ?_
  refine r_bipush (v := 8) hC dL_act_21 rfl ?_
  refine r_idiv hC dL_act_23 (by decide) ?_
  refine r_iload hC dL_act_24 1 rfl ?_
  have hne := if_K hf
  have hf := if_V hf
  refine r_irem hC dL_act_26 hne ?_
  refine r_istore (L' := [(6, .int ((v2 / 8) - (v2 / 8) / x3 * x3)), (5, .int (v2 - v2 / x1 * x1)), (4, .int x3), (3, .int x1), (0, .ref (Z.1 0)), (1, .int v1), (2, .int v2)]) hC dL_act_27 (by decide) rfl ?_
  refine r_iload_n hC dL_act_29 5 rfl ?_
  refine r_bipush (v := 16) hC dL_act_30 rfl ?_
  refine r_irem hC dL_act_32 (by decide) ?_
  by_cases e0 : (v1 - v1 / 16 * 16) = 0
  · have hf := if_T hf e0
    refine r_swIn (c := 0) (tgt := 108) hC dL_act_33 e0 (by decide) (by decide) rfl (by decide) ?_
    refine r_L [4, 6, 1, 0] rfl ?_
    exact w_L_act_b108 hC hz hZ v2 (v2 - v2 / x1 * x1) ((v2 / 8) - (v2 / 8) / x3 * x3)   _ (by omega) (by omega) hf
  have hf := if_F hf e0
  by_cases e1 : (v1 - v1 / 16 * 16) = 1
  · have hf := if_T hf e1
    refine r_swIn (c := 1) (tgt := 108) hC dL_act_33 e1 (by decide) (by decide) rfl (by decide) ?_
    refine r_L [4, 6, 1, 0] rfl ?_
    exact w_L_act_b108 hC hz hZ v2 (v2 - v2 / x1 * x1) ((v2 / 8) - (v2 / 8) / x3 * x3)   _ (by omega) (by omega) hf
  have hf := if_F hf e1
  by_cases e2 : (v1 - v1 / 16 * 16) = 2
  · have hf := if_T hf e2
    refine r_swIn (c := 2) (tgt := 108) hC dL_act_33 e2 (by decide) (by decide) rfl (by decide) ?_
    refine r_L [4, 6, 1, 0] rfl ?_
    exact w_L_act_b108 hC hz hZ v2 (v2 - v2 / x1 * x1) ((v2 / 8) - (v2 / 8) / x3 * x3)   _ (by omega) (by omega) hf
  have hf := if_F hf e2
  by_cases e3 : (v1 - v1 / 16 * 16) = 3
  · have hf := if_T hf e3
    refine r_swIn (c := 3) (tgt := 108) hC dL_act_33 e3 (by decide) (by decide) rfl (by decide) ?_
    refine r_L [4, 6, 1, 0] rfl ?_
    exact w_L_act_b108 hC hz hZ v2 (v2 - v2 / x1 * x1) ((v2 / 8) - (v2 / 8) / x3 * x3)   _ (by omega) (by omega) hf
  have hf := if_F hf e3
  by_cases e4 : (v1 - v1 / 16 * 16) = 4
  · have hf := if_T hf e4
    refine r_swIn (c := 4) (tgt := 108) hC dL_act_33 e4 (by decide) (by decide) rfl (by decide) ?_
    refine r_L [4, 6, 1, 0] rfl ?_
    exact w_L_act_b108 hC hz hZ v2 (v2 - v2 / x1 * x1) ((v2 / 8) - (v2 / 8) / x3 * x3)   _ (by omega) (by omega) hf
  have hf := if_F hf e4
  by_cases e5 : (v1 - v1 / 16 * 16) = 5
  · have hf := if_T hf e5
    refine r_swIn (c := 5) (tgt := 155) hC dL_act_33 e5 (by decide) (by decide) rfl (by decide) ?_
    refine r_aload_n hC dL_act_155 4 rfl ?_
    refine r_iload hC dL_act_156 1 rfl ?_
    refine r_iload_n hC dL_act_158 6 rfl ?_
    refine r_bipush (v := 8) hC dL_act_159 rfl ?_
    refine r_idiv hC dL_act_161 (by decide) ?_
    refine r_bipush (v := 25) hC dL_act_162 rfl ?_
    refine r_irem hC dL_act_164 (by decide) ?_
    refine r_bipush (v := 12) hC dL_act_165 rfl ?_
    refine r_isub hC dL_act_167 ?_
    refine r_wcall [] (fun r M1 h => c_L_tryTranspose (cx_st hC) hz hZ (v2 - v2 / x1 * x1) (((v2 / 8) - (v2 / 8) / 25 * 25) - 12) _ r M1 h) hf cs_L_139 hC rfl rfl (by decide) (by decide) (Nat.le_of_ble_eq_true rfl) (by omega) (by omega) dL_act_168 (fun x5 M6 hf => ?_)
    exact r_iret hf hC (by omega) (by omega) dL_act_171
  have hf := if_F hf e5
  by_cases e6 : (v1 - v1 / 16 * 16) = 6
  · have hf := if_T hf e6
    refine r_swIn (c := 6) (tgt := 172) hC dL_act_33 e6 (by decide) (by decide) rfl (by decide) ?_
    refine r_aload_n hC dL_act_172 4 rfl ?_
    refine r_iload hC dL_act_173 1 rfl ?_
    refine r_iload_n hC dL_act_175 6 rfl ?_
    refine r_bipush (v := 8) hC dL_act_176 rfl ?_
    refine r_idiv hC dL_act_178 (by decide) ?_
    refine r_iload_n hC dL_act_179 3 rfl ?_
    have hne := if_K hf
    have hf := if_V hf
    refine r_irem hC dL_act_180 hne ?_
    refine r_wcall [] (fun r M1 h => c_L_tryExchange (cx_st hC) hz hZ (v2 - v2 / x1 * x1) ((v2 / 8) - (v2 / 8) / x1 * x1) _ r M1 h) hf cs_L_142 hC rfl rfl (by decide) (by decide) (Nat.le_of_ble_eq_true rfl) (by omega) (by omega) dL_act_181 (fun x7 M8 hf => ?_)
    exact r_iret hf hC (by omega) (by omega) dL_act_184
  have hf := if_F hf e6
  by_cases e7 : (v1 - v1 / 16 * 16) = 7
  · have hf := if_T hf e7
    refine r_swIn (c := 7) (tgt := 185) hC dL_act_33 e7 (by decide) (by decide) rfl (by decide) ?_
    refine r_aload_n hC dL_act_185 4 rfl ?_
    refine r_iload_n hC dL_act_186 6 rfl ?_
    refine r_iconst (v := 3) hC dL_act_187 rfl ?_
    refine r_irem hC dL_act_188 (by decide) ?_
    refine r_if_le 196 hC dL_act_189 (by decide) (fun h => ?_) (fun h => ?_)
    · have hf := if_T hf h
      refine r_iconst (v := 0) hC dL_act_196 rfl ?_
      refine r_L [] rfl ?_
      exact w_L_act_b197 hC hz hZ   0 _ (by omega) (by omega) hf
    · have hf := if_F hf h
      refine r_iconst (v := 1) hC dL_act_192 rfl ?_
      refine r_goto 197 hC dL_act_193 (by decide) ?_
      refine r_L [] rfl ?_
      exact w_L_act_b197 hC hz hZ   1 _ (by omega) (by omega) hf
  have hf := if_F hf e7
  by_cases e8 : (v1 - v1 / 16 * 16) = 8
  · have hf := if_T hf e8
    refine r_swIn (c := 8) (tgt := 201) hC dL_act_33 e8 (by decide) (by decide) rfl (by decide) ?_
    refine r_aload_n hC dL_act_201 4 rfl ?_
    refine r_iload_n hC dL_act_202 6 rfl ?_
    refine r_bipush (v := 8) hC dL_act_203 rfl ?_
    refine r_idiv hC dL_act_205 (by decide) ?_
    refine r_iload hC dL_act_206 2 rfl ?_
    refine r_iconst (v := 1) hC dL_act_208 rfl ?_
    refine r_iadd hC dL_act_209 ?_
    have hne := if_K hf
    have hf := if_V hf
    refine r_irem hC dL_act_210 hne ?_
    refine r_wcall [] (fun r M1 h => c_L_tryInsertBeat (cx_st hC) hz hZ ((v2 / 8) - (v2 / 8) / (x3 + 1) * (x3 + 1)) _ r M1 h) hf cs_L_149 hC rfl rfl (by decide) (by decide) (Nat.le_of_ble_eq_true rfl) (by omega) (by omega) dL_act_211 (fun x9 M10 hf => ?_)
    exact r_iret hf hC (by omega) (by omega) dL_act_214
  have hf := if_F hf e8
  by_cases e9 : (v1 - v1 / 16 * 16) = 9
  · have hf := if_T hf e9
    refine r_swIn (c := 9) (tgt := 215) hC dL_act_33 e9 (by decide) (by decide) rfl (by decide) ?_
    refine r_aload_n hC dL_act_215 4 rfl ?_
    refine r_iload hC dL_act_216 0 rfl ?_
    refine r_wcall [] (fun r M1 h => c_L_tryRemoveBeat (cx_st hC) hz hZ ((v2 / 8) - (v2 / 8) / x3 * x3) _ r M1 h) hf cs_L_152 hC rfl rfl (by decide) (by decide) (Nat.le_of_ble_eq_true rfl) (by omega) (by omega) dL_act_218 (fun x11 M12 hf => ?_)
    exact r_iret hf hC (by omega) (by omega) dL_act_221
  have hf := if_F hf e9
  by_cases e10 : (v1 - v1 / 16 * 16) = 10
  · have hf := if_T hf e10
    refine r_swIn (c := 10) (tgt := 222) hC dL_act_33 e10 (by decide) (by decide) rfl (by decide) ?_
    refine r_L [4, 6] rfl ?_
    exact w_L_act_b222 hC hz hZ v2   _ (by omega) (by omega) hf
  have hf := if_F hf e10
  by_cases e11 : (v1 - v1 / 16 * 16) = 11
  · have hf := if_T hf e11
    refine r_swIn (c := 11) (tgt := 222) hC dL_act_33 e11 (by decide) (by decide) rfl (by decide) ?_
    refine r_L [4, 6] rfl ?_
    exact w_L_act_b222 hC hz hZ v2   _ (by omega) (by omega) hf
  have hf := if_F hf e11
  by_cases e12 : (v1 - v1 / 16 * 16) = 12
  · have hf := if_T hf e12
    refine r_swIn (c := 12) (tgt := 239) hC dL_act_33 e12 (by decide) (by decide) rfl (by decide) ?_
    refine r_aload_n hC dL_act_239 4 rfl ?_
    refine r_iconst (v := 2) hC dL_act_240 rfl ?_
    refine r_iload_n hC dL_act_241 6 rfl ?_
    refine r_iconst (v := 2) hC dL_act_242 rfl ?_
    refine r_irem hC dL_act_243 (by decide) ?_
    refine r_iadd hC dL_act_244 ?_
    refine r_iconst (v := 1) hC dL_act_245 rfl ?_
    refine r_iload_n hC dL_act_246 6 rfl ?_
    refine r_bipush (v := 8) hC dL_act_247 rfl ?_
    refine r_idiv hC dL_act_249 (by decide) ?_
    refine r_iconst (v := 5) hC dL_act_250 rfl ?_
    refine r_irem hC dL_act_251 (by decide) ?_
    refine r_iadd hC dL_act_252 ?_
    refine r_wcall [] (fun r M1 h => c_L_trySet (cx_st hC) hz hZ (2 + (v2 - v2 / 2 * 2)) (1 + ((v2 / 8) - (v2 / 8) / 5 * 5)) _ r M1 h) hf cs_L_131 hC rfl rfl (by decide) (by decide) (Nat.le_of_ble_eq_true rfl) (by omega) (by omega) dL_act_253 (fun x13 M14 hf => ?_)
    exact r_iret hf hC (by omega) (by omega) dL_act_256
  have hf := if_F hf e12
  by_cases e13 : (v1 - v1 / 16 * 16) = 13
  · have hf := if_T hf e13
    refine r_swIn (c := 13) (tgt := 257) hC dL_act_33 e13 (by decide) (by decide) rfl (by decide) ?_
    refine r_aload_n hC dL_act_257 4 rfl ?_
    refine r_iconst (v := 4) hC dL_act_258 rfl ?_
    refine r_iload_n hC dL_act_259 6 rfl ?_
    refine r_iconst (v := 2) hC dL_act_260 rfl ?_
    refine r_irem hC dL_act_261 (by decide) ?_
    refine r_iadd hC dL_act_262 ?_
    refine r_iload_n hC dL_act_263 6 rfl ?_
    refine r_bipush (v := 8) hC dL_act_264 rfl ?_
    refine r_idiv hC dL_act_266 (by decide) ?_
    refine r_iconst (v := 2) hC dL_act_267 rfl ?_
    refine r_irem hC dL_act_268 (by decide) ?_
    refine r_wcall [] (fun r M1 h => c_L_trySet (cx_st hC) hz hZ (4 + (v2 - v2 / 2 * 2)) ((v2 / 8) - (v2 / 8) / 2 * 2) _ r M1 h) hf cs_L_131 hC rfl rfl (by decide) (by decide) (Nat.le_of_ble_eq_true rfl) (by omega) (by omega) dL_act_269 (fun x15 M16 hf => ?_)
    exact r_iret hf hC (by omega) (by omega) dL_act_272
  have hf := if_F hf e13
  by_cases e14 : (v1 - v1 / 16 * 16) = 14
  · have hf := if_T hf e14
    refine r_swIn (c := 14) (tgt := 273) hC dL_act_33 e14 (by decide) (by decide) rfl (by decide) ?_
    refine r_aload_n hC dL_act_273 4 rfl ?_
    refine r_wcall [] (fun r M1 h => c_L_tryUndo (cx_st hC) hz hZ  _ r M1 h) hf cs_L_118 hC rfl rfl (by decide) (by decide) (Nat.le_of_ble_eq_true rfl) (by omega) (by omega) dL_act_274 (fun x17 M18 hf => ?_)
    exact r_iret hf hC (by omega) (by omega) dL_act_277
  have hf := if_F hf e14
  refine r_swOut (tgt := 278) hC dL_act_33 (sw_out 0 14 (by decide) (by decide) (fun c hc1 hc2 => ?_)) (by decide) ?_
  · have : c = 0 ∨ c = 1 ∨ c = 2 ∨ c = 3 ∨ c = 4 ∨ c = 5 ∨ c = 6 ∨ c = 7 ∨ c = 8 ∨ c = 9 ∨ c = 10 ∨ c = 11 ∨ c = 12 ∨ c = 13 ∨ c = 14 := by omega
    rcases this with rfl | rfl | rfl | rfl | rfl | rfl | rfl | rfl | rfl | rfl | rfl | rfl | rfl | rfl | rfl
    · exact e0
    · exact e1
    · exact e2
    · exact e3
    · exact e4
    · exact e5
    · exact e6
    · exact e7
    · exact e8
    · exact e9
    · exact e10
    · exact e11
    · exact e12
    · exact e13
    · exact e14
  refine r_iload_n hC dL_act_278 6 rfl ?_
  refine r_iconst (v := 2) hC dL_act_279 rfl ?_
  refine r_irem hC dL_act_280 (by decide) ?_
  refine r_if_ne 292 hC dL_act_281 (by decide) (fun h => ?_) (fun h => ?_)
  · have hf := if_F hf h
    refine r_aload_n hC dL_act_292 4 rfl ?_
    refine r_iconst (v := 1) hC dL_act_293 rfl ?_
    refine r_wcall [] (fun r M1 h => c_L_tryRestore (cx_st hC) hz hZ 1 _ r M1 h) hf cs_L_121 hC rfl rfl (by decide) (by decide) (Nat.le_of_ble_eq_true rfl) (by omega) (by omega) dL_act_294 (fun x19 M20 hf => ?_)
    exact r_iret hf hC (by omega) (by omega) dL_act_297
  · have hf := if_T hf h
    refine r_aload_n hC dL_act_284 4 rfl ?_
    refine r_iconst (v := 1) hC dL_act_285 rfl ?_
    refine r_wcall [] (fun r M1 h => c_L_trySave (cx_st hC) hz hZ 1 _ r M1 h) hf cs_L_180 hC rfl rfl (by decide) (by decide) (Nat.le_of_ble_eq_true rfl) (by omega) (by omega) dL_act_286 (fun x21 M22 hf => ?_)
    refine r_goto 297 hC dL_act_289 (by decide) ?_
    exact r_iret hf hC (by omega) (by omega) dL_act_297
set_option maxRecDepth 20000 in
set_option maxHeartbeats 1000000 in
theorem c_L_act {l : Launch} (hl : l.stackTraces = false) {G : GG} {Z : ZZ} (hz : ZOk G Z) (hZ : ZM Z) (v1 : Int32) (v2 : Int32) (M : Mem) (r : Int32) (M' : Mem) (hf : f_L_act v1 v2 M = some (r, M')) : CC (QcI G Z r M') l G Z yL_act cL_act 7 (some .int) 10 3 18 [.ref (Z.1 0), .int v1, .int v2] M :=
  CC.of [(0, .ref (Z.1 0)), (1, .int v1), (2, .int v2)] hl (by decide +kernel) (Nat.le_of_ble_eq_true rfl) rfl (fun _ hC => w_L_act hC hz hZ v1 v2 M hf)
