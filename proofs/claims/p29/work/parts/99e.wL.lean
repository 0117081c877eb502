set_option maxRecDepth 20000 in
set_option maxHeartbeats 1000000 in
theorem w_L_moved_b365 {X : XX} {G : GG} {Z : ZZ} {r : Int32} {M' : Mem} {B234 : Nat} {k n : Nat} (hC : Cx X G RL cL_moved (some .boolean) 10 105 630 15) (hz : ZOk G Z) (hZ : ZM Z) (v2 : Int32) (v3 : Int32) (v4 : Int32) (v10 : Int32) (v11 : Int32) (v12 : Int32) (k234 : Int32 → Int32 → Int32 → Mem → Option (Int32 × Mem)) (hk234 : ∀ (k n : Nat) (u7 : Int32) (u11 : Int32) (u12 : Int32) (M : Mem), k ≤ B234 → n ≤ 6 * k → k234 u7 u11 u12 M = some (r, M') → V X G Z M k n (QN X G (QcI G Z r M') 105 630) 234 [(0, .ref (Z.1 0)), (2, .int v2), (3, .int v3), (4, .int v4), (7, .int u7), (10, .int v10), (11, .int u11), (12, .int u12)] []) (hB234 : B234 ≤ 105)  (M : Mem) (hb234 : k + 1 ≤ B234) (hn : n ≤ 6 * k) (hf : f_L_moved_b365 v2 v3 v4 v10 v11 v12 k234 M = some (r, M')) : V X G Z M k n (QN X G (QcI G Z r M') 105 630) 365 [(0, .ref (Z.1 0)), (2, .int v2), (3, .int v3), (4, .int v4), (10, .int v10), (11, .int v11), (12, .int v12)] [] := by
  unfold f_L_moved_b365 at hf
  refine r_aload_n hC dL_moved_365 0 rfl ?_
  refine r_iconst (v := 0) hC dL_moved_366 rfl ?_
  refine r_wcall [] (fun r M1 h => c_L_tryRestore (cx_st hC) hz hZ 0 _ r M1 h) hf cs_L_121 hC rfl rfl (by decide) (by decide) (Nat.le_of_ble_eq_true rfl) (by omega) (by omega) dL_moved_367 (fun x27 M28 hf => ?_)
  refine r_iload_n hC dL_moved_370 2 rfl ?_
  refine r_icmp_ne 378 hC dL_moved_371 (by decide) (fun h => ?_) (fun h => ?_)
  · have hf := if_F hf h
    refine r_iconst (v := 0) hC dL_moved_378 rfl ?_
    refine r_istore (L' := [(7, .int 0), (0, .ref (Z.1 0)), (2, .int v2), (3, .int v3), (4, .int v4), (10, .int v10), (11, .int v11), (12, .int v12)]) hC dL_moved_379 (by decide) rfl ?_
    refine r_iinc (v := v12 + 1) (L' := [(12, .int (v12 + 1)), (7, .int 0), (0, .ref (Z.1 0)), (2, .int v2), (3, .int v3), (4, .int v4), (10, .int v10), (11, .int v11)]) hC dL_moved_381 7 rfl rfl (by decide) rfl ?_
    refine r_goto 234 hC dL_moved_384 (by decide) ?_
    refine r_L [2, 3, 4, 5, 1, 6, 7, 0] rfl ?_
    exact hk234 _ _ _ _ _ _ (by omega) (by omega) hf
  · have hf := if_T hf h
    refine r_iconst (v := 1) hC dL_moved_374 rfl ?_
    refine r_goto 379 hC dL_moved_375 (by decide) ?_
    refine r_istore (L' := [(7, .int 1), (0, .ref (Z.1 0)), (2, .int v2), (3, .int v3), (4, .int v4), (10, .int v10), (11, .int v11), (12, .int v12)]) hC dL_moved_379 (by decide) rfl ?_
    refine r_iinc (v := v12 + 1) (L' := [(12, .int (v12 + 1)), (7, .int 1), (0, .ref (Z.1 0)), (2, .int v2), (3, .int v3), (4, .int v4), (10, .int v10), (11, .int v11)]) hC dL_moved_381 7 rfl rfl (by decide) rfl ?_
    refine r_goto 234 hC dL_moved_384 (by decide) ?_
    refine r_L [2, 3, 4, 5, 1, 6, 7, 0] rfl ?_
    exact hk234 _ _ _ _ _ _ (by omega) (by omega) hf
set_option maxRecDepth 20000 in
set_option maxHeartbeats 1000000 in
theorem w_L_moved_b334 {X : XX} {G : GG} {Z : ZZ} {r : Int32} {M' : Mem} {B234 : Nat} {k n : Nat} (hC : Cx X G RL cL_moved (some .boolean) 10 105 630 15) (hz : ZOk G Z) (hZ : ZM Z) (v2 : Int32) (v3 : Int32) (v4 : Int32) (v7 : Int32) (v10 : Int32) (v12 : Int32) (v13 : Int32) (v14 : Int32) (k234 : Int32 → Int32 → Int32 → Mem → Option (Int32 × Mem)) (hk234 : ∀ (k n : Nat) (u7 : Int32) (u11 : Int32) (u12 : Int32) (M : Mem), k ≤ B234 → n ≤ 6 * k → k234 u7 u11 u12 M = some (r, M') → V X G Z M k n (QN X G (QcI G Z r M') 105 630) 234 [(0, .ref (Z.1 0)), (2, .int v2), (3, .int v3), (4, .int v4), (7, .int u7), (10, .int v10), (11, .int u11), (12, .int u12)] []) (hB234 : B234 ≤ 105) (s0 : Int32) (M : Mem) (hb234 : k + 1 ≤ B234) (hn : n ≤ 6 * k) (hf : f_L_moved_b334 v2 v3 v4 v7 v10 v12 v13 v14 k234 s0 M = some (r, M')) : V X G Z M k n (QN X G (QcI G Z r M') 105 630) 334 [(0, .ref (Z.1 0)), (2, .int v2), (3, .int v3), (4, .int v4), (7, .int v7), (10, .int v10), (12, .int v12), (13, .int v13), (14, .int v14)] [.int s0] := by
  unfold f_L_moved_b334 at hf
  refine r_istore (L' := [(11, .int s0), (0, .ref (Z.1 0)), (2, .int v2), (3, .int v3), (4, .int v4), (7, .int v7), (10, .int v10), (12, .int v12), (13, .int v13), (14, .int v14)]) hC dL_moved_334 (by decide) rfl ?_
  refine r_iload hC dL_moved_336 5 rfl ?_
  refine r_if_eq 378 hC dL_moved_338 (by decide) (fun h => ?_) (fun h => ?_)
  · have hf := if_T hf h
    refine r_iconst (v := 0) hC dL_moved_378 rfl ?_
    refine r_istore (L' := [(7, .int 0), (11, .int s0), (0, .ref (Z.1 0)), (2, .int v2), (3, .int v3), (4, .int v4), (10, .int v10), (12, .int v12), (13, .int v13), (14, .int v14)]) hC dL_moved_379 (by decide) rfl ?_
    refine r_iinc (v := v12 + 1) (L' := [(12, .int (v12 + 1)), (7, .int 0), (11, .int s0), (0, .ref (Z.1 0)), (2, .int v2), (3, .int v3), (4, .int v4), (10, .int v10), (13, .int v13), (14, .int v14)]) hC dL_moved_381 7 rfl rfl (by decide) rfl ?_
    refine r_goto 234 hC dL_moved_384 (by decide) ?_
    refine r_L [3, 4, 5, 6, 1, 7, 2, 0] rfl ?_
    exact hk234 _ _ _ _ _ _ (by omega) (by omega) hf
  · have hf := if_F hf h
    refine r_iload hC dL_moved_341 8 rfl ?_
    refine r_iload hC dL_moved_343 6 rfl ?_
    refine r_icmp_ge 358 hC dL_moved_345 (by decide) (fun h => ?_) (fun h => ?_)
    · have hf := if_T hf h
      refine r_iload hC dL_moved_358 9 rfl ?_
      refine r_iload hC dL_moved_360 0 rfl ?_
      refine r_icmp_lt 378 hC dL_moved_362 (by decide) (fun h => ?_) (fun h => ?_)
      · have hf := if_T hf h
        refine r_iconst (v := 0) hC dL_moved_378 rfl ?_
        refine r_istore (L' := [(7, .int 0), (11, .int s0), (0, .ref (Z.1 0)), (2, .int v2), (3, .int v3), (4, .int v4), (10, .int v10), (12, .int v12), (13, .int v13), (14, .int v14)]) hC dL_moved_379 (by decide) rfl ?_
        refine r_iinc (v := v12 + 1) (L' := [(12, .int (v12 + 1)), (7, .int 0), (11, .int s0), (0, .ref (Z.1 0)), (2, .int v2), (3, .int v3), (4, .int v4), (10, .int v10), (13, .int v13), (14, .int v14)]) hC dL_moved_381 7 rfl rfl (by decide) rfl ?_
        refine r_goto 234 hC dL_moved_384 (by decide) ?_
        refine r_L [3, 4, 5, 6, 1, 7, 2, 0] rfl ?_
        exact hk234 _ _ _ _ _ _ (by omega) (by omega) hf
      · have hf := if_F hf h
        refine r_L [1, 2, 3, 4, 6, 0, 7] rfl ?_
        exact w_L_moved_b365 hC hz hZ v2 v3 v4 v10 s0 v12 k234 hk234 (by omega)  _ (by omega) (by omega) hf
    · have hf := if_F hf h
      refine r_iload hC dL_moved_348 9 rfl ?_
      refine r_iload hC dL_moved_350 0 rfl ?_
      refine r_icmp_le 378 hC dL_moved_352 (by decide) (fun h => ?_) (fun h => ?_)
      · have hf := if_T hf h
        refine r_iconst (v := 0) hC dL_moved_378 rfl ?_
        refine r_istore (L' := [(7, .int 0), (11, .int s0), (0, .ref (Z.1 0)), (2, .int v2), (3, .int v3), (4, .int v4), (10, .int v10), (12, .int v12), (13, .int v13), (14, .int v14)]) hC dL_moved_379 (by decide) rfl ?_
        refine r_iinc (v := v12 + 1) (L' := [(12, .int (v12 + 1)), (7, .int 0), (11, .int s0), (0, .ref (Z.1 0)), (2, .int v2), (3, .int v3), (4, .int v4), (10, .int v10), (13, .int v13), (14, .int v14)]) hC dL_moved_381 7 rfl rfl (by decide) rfl ?_
        refine r_goto 234 hC dL_moved_384 (by decide) ?_
        refine r_L [3, 4, 5, 6, 1, 7, 2, 0] rfl ?_
        exact hk234 _ _ _ _ _ _ (by omega) (by omega) hf
      · have hf := if_F hf h
        refine r_goto 365 hC dL_moved_355 (by decide) ?_
        refine r_L [1, 2, 3, 4, 6, 0, 7] rfl ?_
        exact w_L_moved_b365 hC hz hZ v2 v3 v4 v10 s0 v12 k234 hk234 (by omega)  _ (by omega) (by omega) hf
set_option maxRecDepth 20000 in
set_option maxHeartbeats 1000000 in
theorem w_L_moved_b315 {X : XX} {G : GG} {Z : ZZ} {r : Int32} {M' : Mem} {B234 : Nat} {k n : Nat} (hC : Cx X G RL cL_moved (some .boolean) 10 105 630 15) (hz : ZOk G Z) (hZ : ZM Z) (v2 : Int32) (v3 : Int32) (v4 : Int32) (v7 : Int32) (v10 : Int32) (v11 : Int32) (v12 : Int32) (v13 : Int32) (k234 : Int32 → Int32 → Int32 → Mem → Option (Int32 × Mem)) (hk234 : ∀ (k n : Nat) (u7 : Int32) (u11 : Int32) (u12 : Int32) (M : Mem), k ≤ B234 → n ≤ 6 * k → k234 u7 u11 u12 M = some (r, M') → V X G Z M k n (QN X G (QcI G Z r M') 105 630) 234 [(0, .ref (Z.1 0)), (2, .int v2), (3, .int v3), (4, .int v4), (7, .int u7), (10, .int v10), (11, .int u11), (12, .int u12)] []) (hB234 : B234 ≤ 105)  (M : Mem) (hb234 : k + 2 ≤ B234) (hn : n ≤ 6 * k) (hf : f_L_moved_b315 v2 v3 v4 v7 v10 v11 v12 v13 k234 M = some (r, M')) : V X G Z M k n (QN X G (QcI G Z r M') 105 630) 315 [(0, .ref (Z.1 0)), (2, .int v2), (3, .int v3), (4, .int v4), (7, .int v7), (10, .int v10), (11, .int v11), (12, .int v12), (13, .int v13)] [] := by
  unfold f_L_moved_b315 at hf
  refine r_aload_n hC dL_moved_315 0 rfl ?_
  refine r_iconst (v := 0) hC dL_moved_316 rfl ?_
  refine r_wcall [] (fun r M1 h => c_L_tryWhole (cx_st hC) hz hZ 0 _ r M1 h) hf cs_L_124 hC rfl rfl (by decide) (by decide) (Nat.le_of_ble_eq_true rfl) (by omega) (by omega) dL_moved_317 (fun x25 M26 hf => ?_)
  refine r_istore (L' := [(14, .int x25), (0, .ref (Z.1 0)), (2, .int v2), (3, .int v3), (4, .int v4), (7, .int v7), (10, .int v10), (11, .int v11), (12, .int v12), (13, .int v13)]) hC dL_moved_320 (by decide) rfl ?_
  refine r_iload hC dL_moved_322 8 rfl ?_
  refine r_if_ne 332 hC dL_moved_324 (by decide) (fun h => ?_) (fun h => ?_)
  · have hf := if_F hf h
    refine r_iload hC dL_moved_332 7 rfl ?_
    refine r_L [1, 2, 3, 4, 5, 6, 8, 9, 0] rfl ?_
    exact w_L_moved_b334 hC hz hZ v2 v3 v4 v7 v10 v12 v13 x25 k234 hk234 (by omega) v11 _ (by omega) (by omega) hf
  · have hf := if_T hf h
    refine r_iload hC dL_moved_327 0 rfl ?_
    refine r_goto 334 hC dL_moved_329 (by decide) ?_
    refine r_L [1, 2, 3, 4, 5, 6, 8, 9, 0] rfl ?_
    exact w_L_moved_b334 hC hz hZ v2 v3 v4 v7 v10 v12 v13 x25 k234 hk234 (by omega) x25 _ (by omega) (by omega) hf
set_option maxRecDepth 20000 in
set_option maxHeartbeats 1000000 in
theorem w_L_moved_b277 {X : XX} {G : GG} {Z : ZZ} {r : Int32} {M' : Mem} {B234 : Nat} {B277 : Nat} {k n : Nat} (hC : Cx X G RL cL_moved (some .boolean) 10 105 630 15) (hz : ZOk G Z) (hZ : ZM Z) (v2 : Int32) (v3 : Int32) (v4 : Int32) (v10 : Int32) (v11 : Int32) (v12 : Int32) (v13 : Int32) (k234 : Int32 → Int32 → Int32 → Mem → Option (Int32 × Mem)) (hk234 : ∀ (k n : Nat) (u7 : Int32) (u11 : Int32) (u12 : Int32) (M : Mem), k ≤ B234 → n ≤ 6 * k → k234 u7 u11 u12 M = some (r, M') → V X G Z M k n (QN X G (QcI G Z r M') 105 630) 234 [(0, .ref (Z.1 0)), (2, .int v2), (3, .int v3), (4, .int v4), (7, .int u7), (10, .int v10), (11, .int u11), (12, .int u12)] []) (hB234 : B234 ≤ 105) (k277 : Int32 → Int32 → Mem → Option (Int32 × Mem)) (hk277 : ∀ (k n : Nat) (u7 : Int32) (u14 : Int32) (M : Mem), k ≤ B277 → n ≤ 6 * k → k277 u7 u14 M = some (r, M') → V X G Z M k n (QN X G (QcI G Z r M') 105 630) 277 [(0, .ref (Z.1 0)), (2, .int v2), (3, .int v3), (4, .int v4), (7, .int u7), (10, .int v10), (11, .int v11), (12, .int v12), (13, .int v13), (14, .int u14)] []) (hB277 : B277 ≤ 105) (v7 : Int32) (v14 : Int32) (M : Mem) (hb234 : k + 2 ≤ B234) (hn : n ≤ 6 * k) (hb277 : k + 1 ≤ B277) (hf : f_L_moved_b277 v2 v3 v4 v10 v11 v12 v13 k234 k277 v7 v14 M = some (r, M')) : V X G Z M k n (QN X G (QcI G Z r M') 105 630) 277 [(0, .ref (Z.1 0)), (2, .int v2), (3, .int v3), (4, .int v4), (7, .int v7), (10, .int v10), (11, .int v11), (12, .int v12), (13, .int v13), (14, .int v14)] [] := by
  unfold f_L_moved_b277 at hf
  refine r_iload hC dL_moved_277 9 rfl ?_
  refine r_iload_n hC dL_moved_279 2 rfl ?_
  refine r_icmp_ge 315 hC dL_moved_280 (by decide) (fun h => ?_) (fun h => ?_)
  · have hf := if_T hf h
    refine r_L [0, 1, 2, 3, 4, 5, 6, 7, 8] rfl ?_
    exact w_L_moved_b315 hC hz hZ v2 v3 v4 v7 v10 v11 v12 v13 k234 hk234 (by omega)  _ (by omega) (by omega) hf
  · have hf := if_F hf h
    refine r_iload hC dL_moved_283 4 rfl ?_
    refine r_if_eq 306 hC dL_moved_285 (by decide) (fun h => ?_) (fun h => ?_)
    · have hf := if_T hf h
      refine r_iconst (v := 0) hC dL_moved_306 rfl ?_
      refine r_istore (L' := [(7, .int 0), (0, .ref (Z.1 0)), (2, .int v2), (3, .int v3), (4, .int v4), (10, .int v10), (11, .int v11), (12, .int v12), (13, .int v13), (14, .int v14)]) hC dL_moved_307 (by decide) rfl ?_
      refine r_iinc (v := v14 + 1) (L' := [(14, .int (v14 + 1)), (7, .int 0), (0, .ref (Z.1 0)), (2, .int v2), (3, .int v3), (4, .int v4), (10, .int v10), (11, .int v11), (12, .int v12), (13, .int v13)]) hC dL_moved_309 9 rfl rfl (by decide) rfl ?_
      refine r_goto 277 hC dL_moved_312 (by decide) ?_
      refine r_L [2, 3, 4, 5, 1, 6, 7, 8, 9, 0] rfl ?_
      exact hk277 _ _ _ _ _ (by omega) (by omega) hf
    · have hf := if_F hf h
      refine r_aload_n hC dL_moved_288 0 rfl ?_
      refine r_iload hC dL_moved_289 8 rfl ?_
      refine r_iload hC dL_moved_291 9 rfl ?_
      refine r_iconst (v := (-1)) hC dL_moved_293 rfl ?_
      refine r_wcall [] (fun r M1 h => c_L_tryWrite (cx_st hC) hz hZ v13 v14 (-1) _ r M1 h) hf cs_L_135 hC rfl rfl (by decide) (by decide) (Nat.le_of_ble_eq_true rfl) (by omega) (by omega) dL_moved_294 (fun x23 M24 hf => ?_)
      refine r_bipush (v := (-9)) hC dL_moved_297 rfl ?_
      refine r_icmp_lt 306 hC dL_moved_299 (by decide) (fun h => ?_) (fun h => ?_)
      · have hf := if_T hf h
        refine r_iconst (v := 0) hC dL_moved_306 rfl ?_
        refine r_istore (L' := [(7, .int 0), (0, .ref (Z.1 0)), (2, .int v2), (3, .int v3), (4, .int v4), (10, .int v10), (11, .int v11), (12, .int v12), (13, .int v13), (14, .int v14)]) hC dL_moved_307 (by decide) rfl ?_
        refine r_iinc (v := v14 + 1) (L' := [(14, .int (v14 + 1)), (7, .int 0), (0, .ref (Z.1 0)), (2, .int v2), (3, .int v3), (4, .int v4), (10, .int v10), (11, .int v11), (12, .int v12), (13, .int v13)]) hC dL_moved_309 9 rfl rfl (by decide) rfl ?_
        refine r_goto 277 hC dL_moved_312 (by decide) ?_
        refine r_L [2, 3, 4, 5, 1, 6, 7, 8, 9, 0] rfl ?_
        exact hk277 _ _ _ _ _ (by omega) (by omega) hf
      · have hf := if_F hf h
        refine r_iconst (v := 1) hC dL_moved_302 rfl ?_
        refine r_goto 307 hC dL_moved_303 (by decide) ?_
        refine r_istore (L' := [(7, .int 1), (0, .ref (Z.1 0)), (2, .int v2), (3, .int v3), (4, .int v4), (10, .int v10), (11, .int v11), (12, .int v12), (13, .int v13), (14, .int v14)]) hC dL_moved_307 (by decide) rfl ?_
        refine r_iinc (v := v14 + 1) (L' := [(14, .int (v14 + 1)), (7, .int 1), (0, .ref (Z.1 0)), (2, .int v2), (3, .int v3), (4, .int v4), (10, .int v10), (11, .int v11), (12, .int v12), (13, .int v13)]) hC dL_moved_309 9 rfl rfl (by decide) rfl ?_
        refine r_goto 277 hC dL_moved_312 (by decide) ?_
        refine r_L [2, 3, 4, 5, 1, 6, 7, 8, 9, 0] rfl ?_
        exact hk277 _ _ _ _ _ (by omega) (by omega) hf
set_option maxRecDepth 20000 in
set_option maxHeartbeats 1000000 in
theorem w_L_moved_b272 {X : XX} {G : GG} {Z : ZZ} {r : Int32} {M' : Mem} {B234 : Nat} {k n : Nat} (hC : Cx X G RL cL_moved (some .boolean) 10 105 630 15) (hz : ZOk G Z) (hZ : ZM Z) (v2 : Int32) (v3 : Int32) (v4 : Int32) (v7 : Int32) (v10 : Int32) (v11 : Int32) (v12 : Int32) (k234 : Int32 → Int32 → Int32 → Mem → Option (Int32 × Mem)) (hk234 : ∀ (k n : Nat) (u7 : Int32) (u11 : Int32) (u12 : Int32) (M : Mem), k ≤ B234 → n ≤ 6 * k → k234 u7 u11 u12 M = some (r, M') → V X G Z M k n (QN X G (QcI G Z r M') 105 630) 234 [(0, .ref (Z.1 0)), (2, .int v2), (3, .int v3), (4, .int v4), (7, .int u7), (10, .int v10), (11, .int u11), (12, .int u12)] []) (hB234 : B234 ≤ 105) (s0 : Int32) (M : Mem) (hb234 : k + 19 ≤ B234) (hn : n ≤ 6 * k) (hf : f_L_moved_b272 v2 v3 v4 v7 v10 v11 v12 k234 s0 M = some (r, M')) : V X G Z M k n (QN X G (QcI G Z r M') 105 630) 272 [(0, .ref (Z.1 0)), (2, .int v2), (3, .int v3), (4, .int v4), (7, .int v7), (10, .int v10), (11, .int v11), (12, .int v12)] [.int s0] := by
  unfold f_L_moved_b272 at hf
  refine r_istore (L' := [(13, .int s0), (0, .ref (Z.1 0)), (2, .int v2), (3, .int v3), (4, .int v4), (7, .int v7), (10, .int v10), (11, .int v11), (12, .int v12)]) hC dL_moved_272 (by decide) rfl ?_
  refine r_iconst (v := 0) hC dL_moved_274 rfl ?_
  refine r_istore (L' := [(14, .int 0), (13, .int s0), (0, .ref (Z.1 0)), (2, .int v2), (3, .int v3), (4, .int v4), (7, .int v7), (10, .int v10), (11, .int v11), (12, .int v12)]) hC dL_moved_275 (by decide) rfl ?_
  refine r_L [2, 3, 4, 5, 6, 7, 8, 9, 1, 0] rfl ?_
  exact lq2_idf (P := fun j (u7 : Int32) (u14 : Int32) (M : Mem) => ∀ k n : Nat, n ≤ 6 * k → k + 1 * j ≤ 105 → k + (1 * j + 2) ≤ B234 → V X G Z M k n (QN X G (QcI G Z r M') 105 630) 277 [(0, .ref (Z.1 0)), (2, .int v2), (3, .int v3), (4, .int v4), (7, .int u7), (10, .int v10), (11, .int v11), (12, .int v12), (13, .int s0), (14, .int u14)] []) (fun j kk hkk u7 u14 M hf k n hn hq0 hq1 => w_L_moved_b277 hC hz hZ v2 v3 v4 v10 v11 v12 s0 k234 hk234 (by omega) kk (fun k' n' u7 u14 M hB hn' hf' => hkk u7 u14 M hf' k' n' (by omega) (by omega) (by omega)) (k := k) (n := n) (B277 := k + 1) (by omega) u7 u14 M (by omega) (by omega) (by omega) hf) 17 _ _ _ hf _ _ (by omega) (by omega) (by omega)
set_option maxRecDepth 20000 in
set_option maxHeartbeats 1000000 in
theorem w_L_moved_b387 {X : XX} {G : GG} {Z : ZZ} {r : Int32} {M' : Mem}  {k n : Nat} (hC : Cx X G RL cL_moved (some .boolean) 10 105 630 15) (hz : ZOk G Z) (hZ : ZM Z) (v2 : Int32) (v4 : Int32) (v7 : Int32) (v10 : Int32)    (M : Mem) (hb : k + 1 ≤ 105) (hn : n ≤ 6 * k) (hf : f_L_moved_b387 v2 v4 v7 v10 M = some (r, M')) : V X G Z M k n (QN X G (QcI G Z r M') 105 630) 387 [(0, .ref (Z.1 0)), (2, .int v2), (4, .int v4), (7, .int v7), (10, .int v10)] [] := by
  unfold f_L_moved_b387 at hf
  refine r_iload hC dL_moved_387 3 rfl ?_
  refine r_if_eq 417 hC dL_moved_389 (by decide) (fun h => ?_) (fun h => ?_)
  · have hf := if_T hf h
    refine r_iconst (v := 0) hC dL_moved_417 rfl ?_
    exact r_zret hf hC rfl rfl (by omega) (by omega) dL_moved_418
  · have hf := if_F hf h
    refine r_iload hC dL_moved_392 4 rfl ?_
    refine r_if_lt 417 hC dL_moved_394 (by decide) (fun h => ?_) (fun h => ?_)
    · have hf := if_T hf h
      refine r_iconst (v := 0) hC dL_moved_417 rfl ?_
      exact r_zret hf hC rfl rfl (by omega) (by omega) dL_moved_418
    · have hf := if_F hf h
      refine r_iload hC dL_moved_397 4 rfl ?_
      refine r_iload hC dL_moved_399 2 rfl ?_
      refine r_icmp_ge 417 hC dL_moved_401 (by decide) (fun h => ?_) (fun h => ?_)
      · have hf := if_T hf h
        refine r_iconst (v := 0) hC dL_moved_417 rfl ?_
        exact r_zret hf hC rfl rfl (by omega) (by omega) dL_moved_418
      · have hf := if_F hf h
        refine r_aload_n hC dL_moved_404 0 rfl ?_
        refine r_iconst (v := 0) hC dL_moved_405 rfl ?_
        refine r_wcall [] (fun r M1 h => c_L_tryWhole (cx_st hC) hz hZ 0 _ r M1 h) hf cs_L_124 hC rfl rfl (by decide) (by decide) (Nat.le_of_ble_eq_true rfl) (by omega) (by omega) dL_moved_406 (fun x19 M20 hf => ?_)
        refine r_iload_n hC dL_moved_409 1 rfl ?_
        refine r_icmp_ne 417 hC dL_moved_410 (by decide) (fun h => ?_) (fun h => ?_)
        · have hf := if_F hf h
          refine r_iconst (v := 0) hC dL_moved_417 rfl ?_
          exact r_zret hf hC rfl rfl (by omega) (by omega) dL_moved_418
        · have hf := if_T hf h
          refine r_iconst (v := 1) hC dL_moved_413 rfl ?_
          refine r_goto 418 hC dL_moved_414 (by decide) ?_
          exact r_zret hf hC rfl rfl (by omega) (by omega) dL_moved_418
set_option maxRecDepth 20000 in
set_option maxHeartbeats 1000000 in
theorem w_L_moved_b234 {X : XX} {G : GG} {Z : ZZ} {r : Int32} {M' : Mem} {B234 : Nat} {k n : Nat} (hC : Cx X G RL cL_moved (some .boolean) 10 105 630 15) (hz : ZOk G Z) (hZ : ZM Z) (v2 : Int32) (v3 : Int32) (v4 : Int32) (v10 : Int32)   (k234 : Int32 → Int32 → Int32 → Mem → Option (Int32 × Mem)) (hk234 : ∀ (k n : Nat) (u7 : Int32) (u11 : Int32) (u12 : Int32) (M : Mem), k ≤ B234 → n ≤ 6 * k → k234 u7 u11 u12 M = some (r, M') → V X G Z M k n (QN X G (QcI G Z r M') 105 630) 234 [(0, .ref (Z.1 0)), (2, .int v2), (3, .int v3), (4, .int v4), (7, .int u7), (10, .int v10), (11, .int u11), (12, .int u12)] []) (hB234 : B234 ≤ 105) (v7 : Int32) (v11 : Int32) (v12 : Int32) (M : Mem) (hb : k + 1 ≤ 105) (hn : n ≤ 6 * k) (hb234 : k + 19 ≤ B234) (hf : f_L_moved_b234 v2 v3 v4 v10 k234 v7 v11 v12 M = some (r, M')) : V X G Z M k n (QN X G (QcI G Z r M') 105 630) 234 [(0, .ref (Z.1 0)), (2, .int v2), (3, .int v3), (4, .int v4), (7, .int v7), (10, .int v10), (11, .int v11), (12, .int v12)] [] := by
  unfold f_L_moved_b234 at hf
  refine r_iload hC dL_moved_234 7 rfl ?_
  refine r_iload hC dL_moved_236 3 rfl ?_
  refine r_icmp_ge 387 hC dL_moved_238 (by decide) (fun h => ?_) (fun h => ?_)
  · have hf := if_T hf h
    refine r_L [0, 1, 3, 4, 5] rfl ?_
    exact w_L_moved_b387 hC hz hZ v2 v4 v7 v10   _ (by omega) (by omega) hf
  · have hf := if_F hf h
    refine r_iload hC dL_moved_241 4 rfl ?_
    refine r_if_eq 387 hC dL_moved_243 (by decide) (fun h => ?_) (fun h => ?_)
    · have hf := if_T hf h
      refine r_L [0, 1, 3, 4, 5] rfl ?_
      exact w_L_moved_b387 hC hz hZ v2 v4 v7 v10   _ (by omega) (by omega) hf
    · have hf := if_F hf h
      refine r_iload hC dL_moved_246 7 rfl ?_
      refine r_if_ne 256 hC dL_moved_248 (by decide) (fun h => ?_) (fun h => ?_)
      · have hf := if_F hf h
        refine r_iload hC dL_moved_256 7 rfl ?_
        refine r_iload hC dL_moved_258 5 rfl ?_
        refine r_icmp_gt 270 hC dL_moved_260 (by decide) (fun h => ?_) (fun h => ?_)
        · have hf := if_T hf h
          refine r_iload hC dL_moved_270 7 rfl ?_
          exact w_L_moved_b272 hC hz hZ v2 v3 v4 v7 v10 v11 v12 k234 hk234 (by omega) v12 _ (by omega) (by omega) hf
        · have hf := if_F hf h
          refine r_iload hC dL_moved_263 7 rfl ?_
          refine r_iconst (v := 1) hC dL_moved_265 rfl ?_
          refine r_isub hC dL_moved_266 ?_
          refine r_goto 272 hC dL_moved_267 (by decide) ?_
          exact w_L_moved_b272 hC hz hZ v2 v3 v4 v7 v10 v11 v12 k234 hk234 (by omega) (v12 - 1) _ (by omega) (by omega) hf
      · have hf := if_T hf h
        refine r_iload hC dL_moved_251 5 rfl ?_
        refine r_goto 272 hC dL_moved_253 (by decide) ?_
        exact w_L_moved_b272 hC hz hZ v2 v3 v4 v7 v10 v11 v12 k234 hk234 (by omega) v10 _ (by omega) (by omega) hf
set_option maxRecDepth 20000 in
set_option maxHeartbeats 1000000 in
theorem w_L_moved_b222 {X : XX} {G : GG} {Z : ZZ} {r : Int32} {M' : Mem}  {k n : Nat} (hC : Cx X G RL cL_moved (some .boolean) 10 105 630 15) (hz : ZOk G Z) (hZ : ZM Z) (v2 : Int32) (v3 : Int32) (v4 : Int32) (v7 : Int32)    (M : Mem) (hb : k + 96 ≤ 105) (hn : n ≤ 6 * k) (hf : f_L_moved_b222 v2 v3 v4 v7 M = some (r, M')) : V X G Z M k n (QN X G (QcI G Z r M') 105 630) 222 [(0, .ref (Z.1 0)), (2, .int v2), (3, .int v3), (4, .int v4), (7, .int v7)] [] := by
  unfold f_L_moved_b222 at hf
  refine r_aload_n hC dL_moved_222 0 rfl ?_
  refine r_callVI [] (fun r M1 h => c_X5_dearest (cx_st hC) hz hZ  _ r M1 h) hf cs_L_194 hC (z_1 hZ 0 (by decide) rfl) (q0 := (RX5, TX5, 7)) rfl rfl [] rfl rfl rfl (by decide) (by decide) (Nat.le_of_ble_eq_true rfl) (by omega) (by omega) dL_moved_223 (fun x17 M18 hf => ?_)
  refine r_istore (L' := [(10, .int x17), (0, .ref (Z.1 0)), (2, .int v2), (3, .int v3), (4, .int v4), (7, .int v7)]) hC dL_moved_226 (by decide) rfl ?_
  refine r_iconst (v := 0) hC dL_moved_228 rfl ?_
  refine r_istore (L' := [(11, .int 0), (10, .int x17), (0, .ref (Z.1 0)), (2, .int v2), (3, .int v3), (4, .int v4), (7, .int v7)]) hC dL_moved_229 (by decide) rfl ?_
  refine r_iconst (v := 0) hC dL_moved_231 rfl ?_
  refine r_istore (L' := [(12, .int 0), (11, .int 0), (10, .int x17), (0, .ref (Z.1 0)), (2, .int v2), (3, .int v3), (4, .int v4), (7, .int v7)]) hC dL_moved_232 (by decide) rfl ?_
  refine r_L [3, 4, 5, 6, 7, 2, 1, 0] rfl ?_
  exact lq3_idf (P := fun j (u7 : Int32) (u11 : Int32) (u12 : Int32) (M : Mem) => ∀ k n : Nat, n ≤ 6 * k → k + (19 * j + 1) ≤ 105 → V X G Z M k n (QN X G (QcI G Z r M') 105 630) 234 [(0, .ref (Z.1 0)), (2, .int v2), (3, .int v3), (4, .int v4), (7, .int u7), (10, .int x17), (11, .int u11), (12, .int u12)] []) (fun j kk hkk u7 u11 u12 M hf k n hn hq0 => w_L_moved_b234 hC hz hZ v2 v3 v4 x17  kk (fun k' n' u7 u11 u12 M hB hn' hf' => hkk u7 u11 u12 M hf' k' n' (by omega) (by omega)) (k := k) (n := n) (B234 := k + 19) (by omega) u7 u11 u12 M (by omega) (by omega) (by omega) hf) 5 _ _ _ _ hf _ _ (by omega) (by omega)
set_option maxRecDepth 20000 in
set_option maxHeartbeats 1000000 in
theorem w_L_moved_b220 {X : XX} {G : GG} {Z : ZZ} {r : Int32} {M' : Mem}  {k n : Nat} (hC : Cx X G RL cL_moved (some .boolean) 10 105 630 15) (hz : ZOk G Z) (hZ : ZM Z) (v2 : Int32) (v3 : Int32) (v4 : Int32)   (s0 : Int32) (M : Mem) (hb : k + 96 ≤ 105) (hn : n ≤ 6 * k) (hf : f_L_moved_b220 v2 v3 v4 s0 M = some (r, M')) : V X G Z M k n (QN X G (QcI G Z r M') 105 630) 220 [(0, .ref (Z.1 0)), (2, .int v2), (3, .int v3), (4, .int v4)] [.int s0] := by
  unfold f_L_moved_b220 at hf
  refine r_istore (L' := [(7, .int s0), (0, .ref (Z.1 0)), (2, .int v2), (3, .int v3), (4, .int v4)]) hC dL_moved_220 (by decide) rfl ?_
  refine r_L [1, 2, 3, 4, 0] rfl ?_
  exact w_L_moved_b222 hC hz hZ v2 v3 v4 s0   _ (by omega) (by omega) hf
set_option maxRecDepth 20000 in
set_option maxHeartbeats 1000000 in
theorem w_L_moved_b219 {X : XX} {G : GG} {Z : ZZ} {r : Int32} {M' : Mem}  {k n : Nat} (hC : Cx X G RL cL_moved (some .boolean) 10 105 630 15) (hz : ZOk G Z) (hZ : ZM Z) (v2 : Int32) (v3 : Int32) (v4 : Int32)    (M : Mem) (hb : k + 96 ≤ 105) (hn : n ≤ 6 * k) (hf : f_L_moved_b219 v2 v3 v4 M = some (r, M')) : V X G Z M k n (QN X G (QcI G Z r M') 105 630) 219 [(0, .ref (Z.1 0)), (2, .int v2), (3, .int v3), (4, .int v4)] [] := by
  unfold f_L_moved_b219 at hf
  refine r_iconst (v := 0) hC dL_moved_219 rfl ?_
  exact w_L_moved_b220 hC hz hZ v2 v3 v4  0 _ (by omega) (by omega) hf
set_option maxRecDepth 20000 in
set_option maxHeartbeats 1000000 in
theorem w_L_moved_b206 {X : XX} {G : GG} {Z : ZZ} {r : Int32} {M' : Mem}  {k n : Nat} (hC : Cx X G RL cL_moved (some .boolean) 10 105 630 15) (hz : ZOk G Z) (hZ : ZM Z) (v2 : Int32) (v3 : Int32) (v4 : Int32)    (M : Mem) (hb : k + 97 ≤ 105) (hn : n ≤ 6 * k) (hf : f_L_moved_b206 v2 v3 v4 M = some (r, M')) : V X G Z M k n (QN X G (QcI G Z r M') 105 630) 206 [(0, .ref (Z.1 0)), (2, .int v2), (3, .int v3), (4, .int v4)] [] := by
  unfold f_L_moved_b206 at hf
  refine r_aload_n hC dL_moved_206 0 rfl ?_
  refine r_iconst (v := 0) hC dL_moved_207 rfl ?_
  refine r_wcall [] (fun r M1 h => c_L_tryRestore (cx_st hC) hz hZ 0 _ r M1 h) hf cs_L_121 hC rfl rfl (by decide) (by decide) (Nat.le_of_ble_eq_true rfl) (by omega) (by omega) dL_moved_208 (fun x21 M22 hf => ?_)
  refine r_iload_n hC dL_moved_211 2 rfl ?_
  refine r_icmp_ne 219 hC dL_moved_212 (by decide) (fun h => ?_) (fun h => ?_)
  · have hf := if_F hf h
    exact w_L_moved_b219 hC hz hZ v2 v3 v4   _ (by omega) (by omega) hf
  · have hf := if_T hf h
    refine r_iconst (v := 1) hC dL_moved_215 rfl ?_
    refine r_goto 220 hC dL_moved_216 (by decide) ?_
    exact w_L_moved_b220 hC hz hZ v2 v3 v4  1 _ (by omega) (by omega) hf
set_option maxRecDepth 20000 in
set_option maxHeartbeats 1000000 in
theorem w_L_moved_b176 {X : XX} {G : GG} {Z : ZZ} {r : Int32} {M' : Mem}  {k n : Nat} (hC : Cx X G RL cL_moved (some .boolean) 10 105 630 15) (hz : ZOk G Z) (hZ : ZM Z) (v2 : Int32) (v3 : Int32) (v4 : Int32) (v6 : Int32) (v8 : Int32) (v9 : Int32) (v10 : Int32) (v11 : Int32)   (s0 : Int32) (M : Mem) (hb : k + 97 ≤ 105) (hn : n ≤ 6 * k) (hf : f_L_moved_b176 v2 v3 v4 v6 v8 v9 v10 v11 s0 M = some (r, M')) : V X G Z M k n (QN X G (QcI G Z r M') 105 630) 176 [(0, .ref (Z.1 0)), (2, .int v2), (3, .int v3), (4, .int v4), (6, .int v6), (8, .int v8), (9, .int v9), (10, .int v10), (11, .int v11)] [.int s0] := by
  unfold f_L_moved_b176 at hf
  refine r_istore (L' := [(12, .int s0), (0, .ref (Z.1 0)), (2, .int v2), (3, .int v3), (4, .int v4), (6, .int v6), (8, .int v8), (9, .int v9), (10, .int v10), (11, .int v11)]) hC dL_moved_176 (by decide) rfl ?_
  refine r_iload hC dL_moved_178 8 rfl ?_
  refine r_iload hC dL_moved_180 6 rfl ?_
  refine r_icmp_lt 219 hC dL_moved_182 (by decide) (fun h => ?_) (fun h => ?_)
  · have hf := if_T hf h
    refine r_L [1, 2, 3, 4] rfl ?_
    exact w_L_moved_b219 hC hz hZ v2 v3 v4   _ (by omega) (by omega) hf
  · have hf := if_F hf h
    refine r_iload hC dL_moved_185 8 rfl ?_
    refine r_iload hC dL_moved_187 6 rfl ?_
    refine r_icmp_gt 206 hC dL_moved_189 (by decide) (fun h => ?_) (fun h => ?_)
    · have hf := if_T hf h
      refine r_L [1, 2, 3, 4] rfl ?_
      exact w_L_moved_b206 hC hz hZ v2 v3 v4   _ (by omega) (by omega) hf
    · have hf := if_F hf h
      refine r_iload hC dL_moved_192 9 rfl ?_
      refine r_iload hC dL_moved_194 0 rfl ?_
      refine r_icmp_gt 206 hC dL_moved_196 (by decide) (fun h => ?_) (fun h => ?_)
      · have hf := if_T hf h
        refine r_L [1, 2, 3, 4] rfl ?_
        exact w_L_moved_b206 hC hz hZ v2 v3 v4   _ (by omega) (by omega) hf
      · have hf := if_F hf h
        refine r_iload hC dL_moved_199 7 rfl ?_
        refine r_iload hC dL_moved_201 5 rfl ?_
        refine r_icmp_gt 219 hC dL_moved_203 (by decide) (fun h => ?_) (fun h => ?_)
        · have hf := if_T hf h
          refine r_L [1, 2, 3, 4] rfl ?_
          exact w_L_moved_b219 hC hz hZ v2 v3 v4   _ (by omega) (by omega) hf
        · have hf := if_F hf h
          refine r_L [1, 2, 3, 4] rfl ?_
          exact w_L_moved_b206 hC hz hZ v2 v3 v4   _ (by omega) (by omega) hf
set_option maxRecDepth 20000 in
set_option maxHeartbeats 1000000 in
theorem w_L_moved_b161 {X : XX} {G : GG} {Z : ZZ} {r : Int32} {M' : Mem}  {k n : Nat} (hC : Cx X G RL cL_moved (some .boolean) 10 105 630 15) (hz : ZOk G Z) (hZ : ZM Z) (v2 : Int32) (v3 : Int32) (v4 : Int32) (v6 : Int32) (v8 : Int32) (v9 : Int32) (v10 : Int32)   (s0 : Int32) (M : Mem) (hb : k + 97 ≤ 105) (hn : n ≤ 6 * k) (hf : f_L_moved_b161 v2 v3 v4 v6 v8 v9 v10 s0 M = some (r, M')) : V X G Z M k n (QN X G (QcI G Z r M') 105 630) 161 [(0, .ref (Z.1 0)), (2, .int v2), (3, .int v3), (4, .int v4), (6, .int v6), (8, .int v8), (9, .int v9), (10, .int v10)] [.int s0] := by
  unfold f_L_moved_b161 at hf
  refine r_istore (L' := [(11, .int s0), (0, .ref (Z.1 0)), (2, .int v2), (3, .int v3), (4, .int v4), (6, .int v6), (8, .int v8), (9, .int v9), (10, .int v10)]) hC dL_moved_161 (by decide) rfl ?_
  refine r_iload hC dL_moved_163 5 rfl ?_
  refine r_if_ge 174 hC dL_moved_165 (by decide) (fun h => ?_) (fun h => ?_)
  · have hf := if_T hf h
    refine r_iload hC dL_moved_174 5 rfl ?_
    refine r_L [1, 2, 3, 4, 5, 6, 7, 8, 0] rfl ?_
    exact w_L_moved_b176 hC hz hZ v2 v3 v4 v6 v8 v9 v10 s0  v6 _ (by omega) (by omega) hf
  · have hf := if_F hf h
    refine r_iload hC dL_moved_168 5 rfl ?_
    refine r_ineg hC dL_moved_170 ?_
    refine r_goto 176 hC dL_moved_171 (by decide) ?_
    refine r_L [1, 2, 3, 4, 5, 6, 7, 8, 0] rfl ?_
    exact w_L_moved_b176 hC hz hZ v2 v3 v4 v6 v8 v9 v10 s0  (-v6) _ (by omega) (by omega) hf
set_option maxRecDepth 20000 in
set_option maxHeartbeats 1000000 in
theorem w_L_moved_b107 {X : XX} {G : GG} {Z : ZZ} {r : Int32} {M' : Mem}  {k n : Nat} (hC : Cx X G RL cL_moved (some .boolean) 10 105 630 15) (hz : ZOk G Z) (hZ : ZM Z) (v1 : Int32) (v2 : Int32) (v3 : Int32) (v4 : Int32) (v5 : Int32) (v6 : Int32) (v8 : Int32)   (s0 : Int32) (M : Mem) (hb : k + 99 ≤ 105) (hn : n ≤ 6 * k) (hf : f_L_moved_b107 v1 v2 v3 v4 v5 v6 v8 s0 M = some (r, M')) : V X G Z M k n (QN X G (QcI G Z r M') 105 630) 107 [(0, .ref (Z.1 0)), (1, .int v1), (2, .int v2), (3, .int v3), (4, .int v4), (5, .int v5), (6, .int v6), (8, .int v8)] [.int s0] := by
  unfold f_L_moved_b107 at hf
  refine r_istore (L' := [(7, .int s0), (0, .ref (Z.1 0)), (1, .int v1), (2, .int v2), (3, .int v3), (4, .int v4), (5, .int v5), (6, .int v6), (8, .int v8)]) hC dL_moved_107 (by decide) rfl ?_
  refine r_iload_n hC dL_moved_109 2 rfl ?_
  refine r_sipush (v := 256) hC dL_moved_110 rfl ?_
  refine r_idiv hC dL_moved_113 (by decide) ?_
  refine r_bipush (v := 25) hC dL_moved_114 rfl ?_
  refine r_irem hC dL_moved_116 (by decide) ?_
  refine r_bipush (v := 12) hC dL_moved_117 rfl ?_
  refine r_isub hC dL_moved_119 ?_
  refine r_istore (L' := [(9, .int (((v1 / 256) - (v1 / 256) / 25 * 25) - 12)), (7, .int s0), (0, .ref (Z.1 0)), (1, .int v1), (2, .int v2), (3, .int v3), (4, .int v4), (5, .int v5), (6, .int v6), (8, .int v8)]) hC dL_moved_120 (by decide) rfl ?_
  refine r_iload hC dL_moved_122 1 rfl ?_
  refine r_if_eq 222 hC dL_moved_124 (by decide) (fun h => ?_) (fun h => ?_)
  · have hf := if_T hf h
    refine r_L [2, 4, 5, 6, 1] rfl ?_
    exact w_L_moved_b222 hC hz hZ v2 v3 v4 s0   _ (by omega) (by omega) hf
  · have hf := if_F hf h
    refine r_aload_n hC dL_moved_127 2 rfl ?_
    refine r_iload hC dL_moved_128 7 rfl ?_
    refine r_iload hC dL_moved_130 0 rfl ?_
    refine r_wcall [] (fun r M1 h => c_L_tryTranspose (cx_st hC) hz hZ v5 (((v1 / 256) - (v1 / 256) / 25 * 25) - 12) _ r M1 h) hf cs_L_139 hC rfl rfl (by decide) (by decide) (Nat.le_of_ble_eq_true rfl) (by omega) (by omega) dL_moved_132 (fun x13 M14 hf => ?_)
    refine r_sipush (v := (-1003)) hC dL_moved_135 rfl ?_
    refine r_icmp_eq 222 hC dL_moved_138 (by decide) (fun h => ?_) (fun h => ?_)
    · have hf := if_T hf h
      refine r_L [2, 4, 5, 6, 1] rfl ?_
      exact w_L_moved_b222 hC hz hZ v2 v3 v4 s0   _ (by omega) (by omega) hf
    · have hf := if_F hf h
      refine r_aload_n hC dL_moved_141 2 rfl ?_
      refine r_iconst (v := 0) hC dL_moved_142 rfl ?_
      refine r_wcall [] (fun r M1 h => c_L_tryWhole (cx_st hC) hz hZ 0 _ r M1 h) hf cs_L_124 hC rfl rfl (by decide) (by decide) (Nat.le_of_ble_eq_true rfl) (by omega) (by omega) dL_moved_143 (fun x15 M16 hf => ?_)
      refine r_istore (L' := [(10, .int x15), (9, .int (((v1 / 256) - (v1 / 256) / 25 * 25) - 12)), (7, .int s0), (0, .ref (Z.1 0)), (1, .int v1), (2, .int v2), (3, .int v3), (4, .int v4), (5, .int v5), (6, .int v6), (8, .int v8)]) hC dL_moved_146 (by decide) rfl ?_
      refine r_iload hC dL_moved_148 1 rfl ?_
      refine r_if_ge 159 hC dL_moved_150 (by decide) (fun h => ?_) (fun h => ?_)
      · have hf := if_T hf h
        refine r_iload hC dL_moved_159 1 rfl ?_
        refine r_L [3, 5, 6, 7, 9, 10, 1, 0] rfl ?_
        exact w_L_moved_b161 hC hz hZ v2 v3 v4 v6 v8 (((v1 / 256) - (v1 / 256) / 25 * 25) - 12) x15  (((v1 / 256) - (v1 / 256) / 25 * 25) - 12) _ (by omega) (by omega) hf
      · have hf := if_F hf h
        refine r_iload hC dL_moved_153 1 rfl ?_
        refine r_ineg hC dL_moved_155 ?_
        refine r_goto 161 hC dL_moved_156 (by decide) ?_
        refine r_L [3, 5, 6, 7, 9, 10, 1, 0] rfl ?_
        exact w_L_moved_b161 hC hz hZ v2 v3 v4 v6 v8 (((v1 / 256) - (v1 / 256) / 25 * 25) - 12) x15  (-(((v1 / 256) - (v1 / 256) / 25 * 25) - 12)) _ (by omega) (by omega) hf
set_option maxRecDepth 20000 in
set_option maxHeartbeats 1000000 in
theorem w_L_moved_b106 {X : XX} {G : GG} {Z : ZZ} {r : Int32} {M' : Mem}  {k n : Nat} (hC : Cx X G RL cL_moved (some .boolean) 10 105 630 15) (hz : ZOk G Z) (hZ : ZM Z) (v1 : Int32) (v2 : Int32) (v3 : Int32) (v4 : Int32) (v5 : Int32) (v6 : Int32) (v8 : Int32)    (M : Mem) (hb : k + 99 ≤ 105) (hn : n ≤ 6 * k) (hf : f_L_moved_b106 v1 v2 v3 v4 v5 v6 v8 M = some (r, M')) : V X G Z M k n (QN X G (QcI G Z r M') 105 630) 106 [(0, .ref (Z.1 0)), (1, .int v1), (2, .int v2), (3, .int v3), (4, .int v4), (5, .int v5), (6, .int v6), (8, .int v8)] [] := by
  unfold f_L_moved_b106 at hf
  refine r_iconst (v := 0) hC dL_moved_106 rfl ?_
  exact w_L_moved_b107 hC hz hZ v1 v2 v3 v4 v5 v6 v8  0 _ (by omega) (by omega) hf
set_option maxRecDepth 20000 in
set_option maxHeartbeats 1000000 in
theorem w_L_moved_b93 {X : XX} {G : GG} {Z : ZZ} {r : Int32} {M' : Mem}  {k n : Nat} (hC : Cx X G RL cL_moved (some .boolean) 10 105 630 15) (hz : ZOk G Z) (hZ : ZM Z) (v1 : Int32) (v2 : Int32) (v3 : Int32) (v4 : Int32) (v5 : Int32) (v6 : Int32) (v8 : Int32)    (M : Mem) (hb : k + 100 ≤ 105) (hn : n ≤ 6 * k) (hf : f_L_moved_b93 v1 v2 v3 v4 v5 v6 v8 M = some (r, M')) : V X G Z M k n (QN X G (QcI G Z r M') 105 630) 93 [(0, .ref (Z.1 0)), (1, .int v1), (2, .int v2), (3, .int v3), (4, .int v4), (5, .int v5), (6, .int v6), (8, .int v8)] [] := by
  unfold f_L_moved_b93 at hf
  refine r_aload_n hC dL_moved_93 0 rfl ?_
  refine r_iconst (v := 0) hC dL_moved_94 rfl ?_
  refine r_wcall [] (fun r M1 h => c_L_tryRestore (cx_st hC) hz hZ 0 _ r M1 h) hf cs_L_121 hC rfl rfl (by decide) (by decide) (Nat.le_of_ble_eq_true rfl) (by omega) (by omega) dL_moved_95 (fun x11 M12 hf => ?_)
  refine r_iload_n hC dL_moved_98 3 rfl ?_
  refine r_icmp_ne 106 hC dL_moved_99 (by decide) (fun h => ?_) (fun h => ?_)
  · have hf := if_F hf h
    exact w_L_moved_b106 hC hz hZ v1 v2 v3 v4 v5 v6 v8   _ (by omega) (by omega) hf
  · have hf := if_T hf h
    refine r_iconst (v := 1) hC dL_moved_102 rfl ?_
    refine r_goto 107 hC dL_moved_103 (by decide) ?_
    exact w_L_moved_b107 hC hz hZ v1 v2 v3 v4 v5 v6 v8  1 _ (by omega) (by omega) hf
set_option maxRecDepth 20000 in
set_option maxHeartbeats 1000000 in
theorem w_L_moved_b62 {X : XX} {G : GG} {Z : ZZ} {r : Int32} {M' : Mem}  {k n : Nat} (hC : Cx X G RL cL_moved (some .boolean) 10 105 630 15) (hz : ZOk G Z) (hZ : ZM Z) (v1 : Int32) (v2 : Int32) (v3 : Int32) (v4 : Int32) (v5 : Int32) (v6 : Int32)   (s0 : Int32) (M : Mem) (hb : k + 101 ≤ 105) (hn : n ≤ 6 * k) (hf : f_L_moved_b62 v1 v2 v3 v4 v5 v6 s0 M = some (r, M')) : V X G Z M k n (QN X G (QcI G Z r M') 105 630) 62 [(0, .ref (Z.1 0)), (1, .int v1), (2, .int v2), (3, .int v3), (4, .int v4), (5, .int v5), (6, .int v6)] [.int s0] := by
  unfold f_L_moved_b62 at hf
  refine r_istore (L' := [(7, .int s0), (0, .ref (Z.1 0)), (1, .int v1), (2, .int v2), (3, .int v3), (4, .int v4), (5, .int v5), (6, .int v6)]) hC dL_moved_62 (by decide) rfl ?_
  refine r_aload_n hC dL_moved_64 1 rfl ?_
  refine r_iconst (v := 0) hC dL_moved_65 rfl ?_
  refine r_wcall [] (fun r M1 h => c_L_tryWhole (cx_st hC) hz hZ 0 _ r M1 h) hf cs_L_124 hC rfl rfl (by decide) (by decide) (Nat.le_of_ble_eq_true rfl) (by omega) (by omega) dL_moved_66 (fun x9 M10 hf => ?_)
  refine r_istore (L' := [(8, .int x9), (7, .int s0), (0, .ref (Z.1 0)), (1, .int v1), (2, .int v2), (3, .int v3), (4, .int v4), (5, .int v5), (6, .int v6)]) hC dL_moved_69 (by decide) rfl ?_
  refine r_iload hC dL_moved_71 1 rfl ?_
  refine r_if_eq 106 hC dL_moved_73 (by decide) (fun h => ?_) (fun h => ?_)
  · have hf := if_T hf h
    refine r_L [2, 3, 4, 5, 6, 7, 8, 0] rfl ?_
    exact w_L_moved_b106 hC hz hZ v1 v2 v3 v4 v5 v6 x9   _ (by omega) (by omega) hf
  · have hf := if_F hf h
    refine r_iload hC dL_moved_76 0 rfl ?_
    refine r_iload_n hC dL_moved_78 4 rfl ?_
    refine r_icmp_gt 106 hC dL_moved_79 (by decide) (fun h => ?_) (fun h => ?_)
    · have hf := if_T hf h
      refine r_L [2, 3, 4, 5, 6, 7, 8, 0] rfl ?_
      exact w_L_moved_b106 hC hz hZ v1 v2 v3 v4 v5 v6 x9   _ (by omega) (by omega) hf
    · have hf := if_F hf h
      refine r_iload hC dL_moved_82 8 rfl ?_
      refine r_if_eq 93 hC dL_moved_84 (by decide) (fun h => ?_) (fun h => ?_)
      · have hf := if_T hf h
        refine r_L [2, 3, 4, 5, 6, 7, 8, 0] rfl ?_
        exact w_L_moved_b93 hC hz hZ v1 v2 v3 v4 v5 v6 x9   _ (by omega) (by omega) hf
      · have hf := if_F hf h
        refine r_iload hC dL_moved_87 0 rfl ?_
        refine r_iload_n hC dL_moved_89 4 rfl ?_
        refine r_icmp_ge 106 hC dL_moved_90 (by decide) (fun h => ?_) (fun h => ?_)
        · have hf := if_T hf h
          refine r_L [2, 3, 4, 5, 6, 7, 8, 0] rfl ?_
          exact w_L_moved_b106 hC hz hZ v1 v2 v3 v4 v5 v6 x9   _ (by omega) (by omega) hf
        · have hf := if_F hf h
          refine r_L [2, 3, 4, 5, 6, 7, 8, 0] rfl ?_
          exact w_L_moved_b93 hC hz hZ v1 v2 v3 v4 v5 v6 x9   _ (by omega) (by omega) hf
set_option maxRecDepth 20000 in
set_option maxHeartbeats 1000000 in
theorem w_L_moved_b61 {X : XX} {G : GG} {Z : ZZ} {r : Int32} {M' : Mem}  {k n : Nat} (hC : Cx X G RL cL_moved (some .boolean) 10 105 630 15) (hz : ZOk G Z) (hZ : ZM Z) (v1 : Int32) (v2 : Int32) (v3 : Int32) (v4 : Int32) (v5 : Int32) (v6 : Int32)    (M : Mem) (hb : k + 101 ≤ 105) (hn : n ≤ 6 * k) (hf : f_L_moved_b61 v1 v2 v3 v4 v5 v6 M = some (r, M')) : V X G Z M k n (QN X G (QcI G Z r M') 105 630) 61 [(0, .ref (Z.1 0)), (1, .int v1), (2, .int v2), (3, .int v3), (4, .int v4), (5, .int v5), (6, .int v6)] [] := by
  unfold f_L_moved_b61 at hf
  refine r_iconst (v := 0) hC dL_moved_61 rfl ?_
  exact w_L_moved_b62 hC hz hZ v1 v2 v3 v4 v5 v6  0 _ (by omega) (by omega) hf
set_option maxRecDepth 20000 in
set_option maxHeartbeats 1000000 in
theorem w_L_moved {X : XX} {G : GG} {Z : ZZ} (hC : Cx X G RL cL_moved (some .boolean) 10 105 630 15) (hz : ZOk G Z) (hZ : ZM Z) (v1 : Int32) (v2 : Int32) (M : Mem) {r : Int32} {M' : Mem} (hf : f_L_moved v1 v2 M = some (r, M')) : V X G Z M 0 0 (QN X G (QcI G Z r M') 105 630) 0 [(0, .ref (Z.1 0)), (1, .int v1), (2, .int v2)] [] := by
  have hb : 0 + 105 ≤ 105 := Nat.le_refl _
  have hn : 0 ≤ 6 * 0 := Nat.le_refl _
  unfold f_L_moved at hf
  refine r_aload_n hC dL_moved_0 0 rfl ?_
  refine r_bipush (v := 7) hC dL_moved_1 rfl ?_
  refine r_wcall [] (fun r M1 h => c_L_tryAbout (cx_st hC) hz hZ 7 _ r M1 h) hf cs_L_115 hC rfl rfl (by decide) (by decide) (Nat.le_of_ble_eq_true rfl) (by omega) (by omega) dL_moved_3 (fun x1 M2 hf => ?_)
  refine r_istore_n (L' := [(3, .int x1), (0, .ref (Z.1 0)), (1, .int v1), (2, .int v2)]) hC dL_moved_6 (by decide) rfl ?_
  refine r_aload_n hC dL_moved_7 1 rfl ?_
  refine r_bipush (v := 6) hC dL_moved_8 rfl ?_
  refine r_wcall [] (fun r M1 h => c_L_tryAbout (cx_st hC) hz hZ 6 _ r M1 h) hf cs_L_115 hC rfl rfl (by decide) (by decide) (Nat.le_of_ble_eq_true rfl) (by omega) (by omega) dL_moved_10 (fun x3 M4 hf => ?_)
  refine r_istore (L' := [(4, .int x3), (3, .int x1), (0, .ref (Z.1 0)), (1, .int v1), (2, .int v2)]) hC dL_moved_13 (by decide) rfl ?_
  refine r_iload_n hC dL_moved_15 3 rfl ?_
  refine r_bipush (v := 64) hC dL_moved_16 rfl ?_
  refine r_idiv hC dL_moved_18 (by decide) ?_
  refine r_iload hC dL_moved_19 0 rfl ?_
  have hne := if_K hf
  have hf := if_V hf
  refine r_irem hC dL_moved_21 hne ?_
  refine r_istore (L' := [(5, .int ((v1 / 64) - (v1 / 64) / x3 * x3)), (4, .int x3), (3, .int x1), (0, .ref (Z.1 0)), (1, .int v1), (2, .int v2)]) hC dL_moved_22 (by decide) rfl ?_
  refine r_aload_n hC dL_moved_24 3 rfl ?_
  refine r_iload hC dL_moved_25 0 rfl ?_
  refine r_wcall [] (fun r M1 h => c_L_tryBestTransposition (cx_st hC) hz hZ ((v1 / 64) - (v1 / 64) / x3 * x3) _ r M1 h) hf cs_L_167 hC rfl rfl (by decide) (by decide) (Nat.le_of_ble_eq_true rfl) (by omega) (by omega) dL_moved_27 (fun x5 M6 hf => ?_)
  refine r_istore (L' := [(6, .int x5), (5, .int ((v1 / 64) - (v1 / 64) / x3 * x3)), (4, .int x3), (3, .int x1), (0, .ref (Z.1 0)), (1, .int v1), (2, .int v2)]) hC dL_moved_30 (by decide) rfl ?_
  refine r_iload hC dL_moved_32 0 rfl ?_
  refine r_bipush (v := (-60)) hC dL_moved_34 rfl ?_
  refine r_icmp_lt 61 hC dL_moved_36 (by decide) (fun h => ?_) (fun h => ?_)
  · have hf := if_T hf h
    refine r_L [4, 5, 6, 3, 2, 1, 0] rfl ?_
    exact w_L_moved_b61 hC hz hZ v1 v2 x1 x3 ((v1 / 64) - (v1 / 64) / x3 * x3) x5   _ (by omega) (by omega) hf
  · have hf := if_F hf h
    refine r_iload hC dL_moved_39 0 rfl ?_
    refine r_bipush (v := 60) hC dL_moved_41 rfl ?_
    refine r_icmp_gt 61 hC dL_moved_43 (by decide) (fun h => ?_) (fun h => ?_)
    · have hf := if_T hf h
      refine r_L [4, 5, 6, 3, 2, 1, 0] rfl ?_
      exact w_L_moved_b61 hC hz hZ v1 v2 x1 x3 ((v1 / 64) - (v1 / 64) / x3 * x3) x5   _ (by omega) (by omega) hf
    · have hf := if_F hf h
      refine r_aload_n hC dL_moved_46 4 rfl ?_
      refine r_iload hC dL_moved_47 1 rfl ?_
      refine r_iload hC dL_moved_49 0 rfl ?_
      refine r_wcall [] (fun r M1 h => c_L_tryTranspose (cx_st hC) hz hZ ((v1 / 64) - (v1 / 64) / x3 * x3) x5 _ r M1 h) hf cs_L_139 hC rfl rfl (by decide) (by decide) (Nat.le_of_ble_eq_true rfl) (by omega) (by omega) dL_moved_51 (fun x7 M8 hf => ?_)
      refine r_if_lt 61 hC dL_moved_54 (by decide) (fun h => ?_) (fun h => ?_)
      · have hf := if_T hf h
        refine r_L [4, 5, 6, 3, 2, 1, 0] rfl ?_
        exact w_L_moved_b61 hC hz hZ v1 v2 x1 x3 ((v1 / 64) - (v1 / 64) / x3 * x3) x5   _ (by omega) (by omega) hf
      · have hf := if_F hf h
        refine r_iconst (v := 1) hC dL_moved_57 rfl ?_
        refine r_goto 62 hC dL_moved_58 (by decide) ?_
        refine r_L [4, 5, 6, 3, 2, 1, 0] rfl ?_
        exact w_L_moved_b62 hC hz hZ v1 v2 x1 x3 ((v1 / 64) - (v1 / 64) / x3 * x3) x5  1 _ (by omega) (by omega) hf
set_option maxRecDepth 20000 in
set_option maxHeartbeats 1000000 in
theorem c_L_moved {l : Launch} (hl : l.stackTraces = false) {G : GG} {Z : ZZ} (hz : ZOk G Z) (hZ : ZM Z) (v1 : Int32) (v2 : Int32) (M : Mem) (r : Int32) (M' : Mem) (hf : f_L_moved v1 v2 M = some (r, M')) : CC (QcI G Z r M') l G Z yL_moved cL_moved 15 (some .boolean) 10 105 630 [.ref (Z.1 0), .int v1, .int v2] M :=
  CC.of [(0, .ref (Z.1 0)), (1, .int v1), (2, .int v2)] hl (by decide +kernel) (Nat.le_of_ble_eq_true rfl) rfl (fun _ hC => w_L_moved hC hz hZ v1 v2 M hf)
set_option maxRecDepth 20000 in
set_option maxHeartbeats 1000000 in
theorem w_L_changed_b512 {X : XX} {G : GG} {Z : ZZ} {r : Int32} {M' : Mem}  {k n : Nat} (hC : Cx X G RL cL_changed (some .boolean) 12 8218 49308 16) (hz : ZOk G Z) (hZ : ZM Z) (hk43 : ZK G Z) (hn43 : 43 ∉ Z.2.2) (v1 : Int32) (v2 : Int32) (v4 : Int32) (v13 : Int32) (v14 : Int32) (v15 : Int32)    (M : Mem) (hb : k + 108 ≤ 8218) (hn : n ≤ 6 * k) (hf : f_L_changed_b512 v1 v2 v4 v13 v14 v15 M = some (r, M')) : V X G Z M k n (QN X G (QcI G Z r M') 8218 49308) 512 [(0, .ref (Z.1 0)), (1, .int v1), (2, .int v2), (4, .int v4), (13, .int v13), (14, .int v14), (15, .int v15)] [] := by
  unfold f_L_changed_b512 at hf
  refine r_aload_n hC dL_changed_512 0 rfl ?_
  refine r_iload hC dL_changed_513 4 rfl ?_
  refine r_iload hC dL_changed_515 5 rfl ?_
  refine r_wcall [] (fun r M1 h => c_L_tryExchange (cx_st hC) hz hZ v13 v14 _ r M1 h) hf cs_L_142 hC rfl rfl (by decide) (by decide) (Nat.le_of_ble_eq_true rfl) (by omega) (by omega) dL_changed_517 (fun x67 M68 hf => ?_)
  refine r_iload hC dL_changed_520 6 rfl ?_
  refine r_icmp_ne 558 hC dL_changed_522 (by decide) (fun h => ?_) (fun h => ?_)
  · have hf := if_F hf h
    refine r_iconst (v := 0) hC dL_changed_558 rfl ?_
    exact r_zret hf hC rfl rfl (by omega) (by omega) dL_changed_559
  · have hf := if_T hf h
    refine r_aload_n hC dL_changed_525 0 rfl ?_
    refine r_iconst (v := 0) hC dL_changed_526 rfl ?_
    refine r_wcall [] (fun r M1 h => c_L_tryWhole (cx_st hC) hz hZ 0 _ r M1 h) hf cs_L_124 hC rfl rfl (by decide) (by decide) (Nat.le_of_ble_eq_true rfl) (by omega) (by omega) dL_changed_527 (fun x69 M70 hf => ?_)
    refine r_iload hC dL_changed_530 3 rfl ?_
    refine r_icmp_ne 558 hC dL_changed_532 (by decide) (fun h => ?_) (fun h => ?_)
    · have hf := if_F hf h
      refine r_iconst (v := 0) hC dL_changed_558 rfl ?_
      exact r_zret hf hC rfl rfl (by omega) (by omega) dL_changed_559
    · have hf := if_T hf h
      refine r_aload_n hC dL_changed_535 0 rfl ?_
      refine r_iconst (v := 0) hC dL_changed_536 rfl ?_
      refine r_wcall [] (fun r M1 h => c_L_tryRestore (cx_st hC) hz hZ 0 _ r M1 h) hf cs_L_121 hC rfl rfl (by decide) (by decide) (Nat.le_of_ble_eq_true rfl) (by omega) (by omega) dL_changed_537 (fun x71 M72 hf => ?_)
      refine r_iload_n hC dL_changed_540 2 rfl ?_
      refine r_icmp_ne 558 hC dL_changed_541 (by decide) (fun h => ?_) (fun h => ?_)
      · have hf := if_F hf h
        refine r_iconst (v := 0) hC dL_changed_558 rfl ?_
        exact r_zret hf hC rfl rfl (by omega) (by omega) dL_changed_559
      · have hf := if_T hf h
        refine r_aload_n hC dL_changed_544 0 rfl ?_
        refine r_iload_n hC dL_changed_545 1 rfl ?_
        refine r_iload hC dL_changed_546 3 rfl ?_
        refine r_ccall [] (fun r M1 h => c_L_moved (cx_st hC) hz hZ v1 v4 _ r M1 h) hf cs_L_190 hC rfl rfl (by decide) (by decide) (Nat.le_of_ble_eq_true rfl) (by omega) (by omega) dL_changed_548 (fun x73 M74 hf => ?_)
        refine r_if_eq 558 hC dL_changed_551 (by decide) (fun h => ?_) (fun h => ?_)
        · have hf := if_T hf h
          refine r_iconst (v := 0) hC dL_changed_558 rfl ?_
          exact r_zret hf hC rfl rfl (by omega) (by omega) dL_changed_559
        · have hf := if_F hf h
          refine r_iconst (v := 1) hC dL_changed_554 rfl ?_
          refine r_goto 559 hC dL_changed_555 (by decide) ?_
          exact r_zret hf hC rfl rfl (by omega) (by omega) dL_changed_559
set_option maxRecDepth 20000 in
set_option maxHeartbeats 1000000 in
theorem w_L_changed_b467 {X : XX} {G : GG} {Z : ZZ} {r : Int32} {M' : Mem}  {k n : Nat} (hC : Cx X G RL cL_changed (some .boolean) 12 8218 49308 16) (hz : ZOk G Z) (hZ : ZM Z) (hk43 : ZK G Z) (hn43 : 43 ∉ Z.2.2) (v1 : Int32) (v2 : Int32) (v3 : Int32) (v4 : Int32) (v5 : Int32)    (M : Mem) (hb : k + 109 ≤ 8218) (hn : n ≤ 6 * k) (hf : f_L_changed_b467 v1 v2 v3 v4 v5 M = some (r, M')) : V X G Z M k n (QN X G (QcI G Z r M') 8218 49308) 467 [(0, .ref (Z.1 0)), (1, .int v1), (2, .int v2), (3, .int v3), (4, .int v4), (5, .int v5)] [] := by
  unfold f_L_changed_b467 at hf
  refine r_iload_n hC dL_changed_467 1 rfl ?_
  refine r_iload_n hC dL_changed_468 3 rfl ?_
  have hne := if_K hf
  have hf := if_V hf
  refine r_irem hC dL_changed_469 hne ?_
  refine r_istore (L' := [(13, .int (v1 - v1 / v3 * v3)), (0, .ref (Z.1 0)), (1, .int v1), (2, .int v2), (3, .int v3), (4, .int v4), (5, .int v5)]) hC dL_changed_470 (by decide) rfl ?_
  refine r_iload_n hC dL_changed_472 2 rfl ?_
  refine r_bipush (v := 8) hC dL_changed_473 rfl ?_
  refine r_idiv hC dL_changed_475 (by decide) ?_
  refine r_iload_n hC dL_changed_476 4 rfl ?_
  have hne := if_K hf
  have hf := if_V hf
  refine r_irem hC dL_changed_477 hne ?_
  refine r_istore (L' := [(14, .int ((v1 / 8) - (v1 / 8) / v3 * v3)), (13, .int (v1 - v1 / v3 * v3)), (0, .ref (Z.1 0)), (1, .int v1), (2, .int v2), (3, .int v3), (4, .int v4), (5, .int v5)]) hC dL_changed_478 (by decide) rfl ?_
  refine r_aload_n hC dL_changed_480 2 rfl ?_
  refine r_iload hC dL_changed_481 1 rfl ?_
  refine r_iload hC dL_changed_483 0 rfl ?_
  refine r_wcall [] (fun r M1 h => c_L_tryExchange (cx_st hC) hz hZ (v1 - v1 / v3 * v3) ((v1 / 8) - (v1 / 8) / v3 * v3) _ r M1 h) hf cs_L_142 hC rfl rfl (by decide) (by decide) (Nat.le_of_ble_eq_true rfl) (by omega) (by omega) dL_changed_485 (fun x65 M66 hf => ?_)
  refine r_istore (L' := [(15, .int x65), (14, .int ((v1 / 8) - (v1 / 8) / v3 * v3)), (13, .int (v1 - v1 / v3 * v3)), (0, .ref (Z.1 0)), (1, .int v1), (2, .int v2), (3, .int v3), (4, .int v4), (5, .int v5)]) hC dL_changed_488 (by decide) rfl ?_
  refine r_iload hC dL_changed_490 8 rfl ?_
  refine r_if_eq 558 hC dL_changed_492 (by decide) (fun h => ?_) (fun h => ?_)
  · have hf := if_T hf h
    refine r_iconst (v := 0) hC dL_changed_558 rfl ?_
    exact r_zret hf hC rfl rfl (by omega) (by omega) dL_changed_559
  · have hf := if_F hf h
    refine r_iload hC dL_changed_495 0 rfl ?_
    refine r_if_lt 558 hC dL_changed_497 (by decide) (fun h => ?_) (fun h => ?_)
    · have hf := if_T hf h
      refine r_iconst (v := 0) hC dL_changed_558 rfl ?_
      exact r_zret hf hC rfl rfl (by omega) (by omega) dL_changed_559
    · have hf := if_F hf h
      refine r_iload hC dL_changed_500 2 rfl ?_
      refine r_iload hC dL_changed_502 1 rfl ?_
      refine r_icmp_ne 512 hC dL_changed_504 (by decide) (fun h => ?_) (fun h => ?_)
      · have hf := if_F hf h
        refine r_L [3, 4, 5, 7, 2, 1, 0] rfl ?_
        exact w_L_changed_b512 hC hz hZ hk43 hn43 v1 v2 v4 (v1 - v1 / v3 * v3) ((v1 / 8) - (v1 / 8) / v3 * v3) x65   _ (by omega) (by omega) hf
      · have hf := if_T hf h
        refine r_iload hC dL_changed_507 0 rfl ?_
        refine r_if_ne 558 hC dL_changed_509 (by decide) (fun h => ?_) (fun h => ?_)
        · have hf := if_F hf h
          refine r_iconst (v := 0) hC dL_changed_558 rfl ?_
          exact r_zret hf hC rfl rfl (by omega) (by omega) dL_changed_559
        · have hf := if_T hf h
          refine r_L [3, 4, 5, 7, 2, 1, 0] rfl ?_
          exact w_L_changed_b512 hC hz hZ hk43 hn43 v1 v2 v4 (v1 - v1 / v3 * v3) ((v1 / 8) - (v1 / 8) / v3 * v3) x65   _ (by omega) (by omega) hf
set_option maxRecDepth 20000 in
set_option maxHeartbeats 1000000 in
theorem w_L_changed_b465 {X : XX} {G : GG} {Z : ZZ} {r : Int32} {M' : Mem}  {k n : Nat} (hC : Cx X G RL cL_changed (some .boolean) 12 8218 49308 16) (hz : ZOk G Z) (hZ : ZM Z) (hk43 : ZK G Z) (hn43 : 43 ∉ Z.2.2) (v1 : Int32) (v2 : Int32) (v3 : Int32) (v4 : Int32)   (s0 : Int32) (M : Mem) (hb : k + 109 ≤ 8218) (hn : n ≤ 6 * k) (hf : f_L_changed_b465 v1 v2 v3 v4 s0 M = some (r, M')) : V X G Z M k n (QN X G (QcI G Z r M') 8218 49308) 465 [(0, .ref (Z.1 0)), (1, .int v1), (2, .int v2), (3, .int v3), (4, .int v4)] [.int s0] := by
  unfold f_L_changed_b465 at hf
  refine r_istore (L' := [(5, .int s0), (0, .ref (Z.1 0)), (1, .int v1), (2, .int v2), (3, .int v3), (4, .int v4)]) hC dL_changed_465 (by decide) rfl ?_
  refine r_L [1, 2, 3, 4, 5, 0] rfl ?_
  exact w_L_changed_b467 hC hz hZ hk43 hn43 v1 v2 v3 v4 s0   _ (by omega) (by omega) hf
set_option maxRecDepth 20000 in
set_option maxHeartbeats 1000000 in
theorem w_L_changed_b464 {X : XX} {G : GG} {Z : ZZ} {r : Int32} {M' : Mem}  {k n : Nat} (hC : Cx X G RL cL_changed (some .boolean) 12 8218 49308 16) (hz : ZOk G Z) (hZ : ZM Z) (hk43 : ZK G Z) (hn43 : 43 ∉ Z.2.2) (v1 : Int32) (v2 : Int32) (v3 : Int32) (v4 : Int32)    (M : Mem) (hb : k + 109 ≤ 8218) (hn : n ≤ 6 * k) (hf : f_L_changed_b464 v1 v2 v3 v4 M = some (r, M')) : V X G Z M k n (QN X G (QcI G Z r M') 8218 49308) 464 [(0, .ref (Z.1 0)), (1, .int v1), (2, .int v2), (3, .int v3), (4, .int v4)] [] := by
  unfold f_L_changed_b464 at hf
  refine r_iconst (v := 0) hC dL_changed_464 rfl ?_
  exact w_L_changed_b465 hC hz hZ hk43 hn43 v1 v2 v3 v4  0 _ (by omega) (by omega) hf
set_option maxRecDepth 20000 in
set_option maxHeartbeats 1000000 in
theorem w_L_changed_b407 {X : XX} {G : GG} {Z : ZZ} {r : Int32} {M' : Mem}  {k n : Nat} (hC : Cx X G RL cL_changed (some .boolean) 12 8218 49308 16) (hz : ZOk G Z) (hZ : ZM Z) (hk43 : ZK G Z) (hn43 : 43 ∉ Z.2.2) (v1 : Int32) (v2 : Int32) (v3 : Int32) (v4 : Int32) (v5 : Int32)    (M : Mem) (hb : k + 113 ≤ 8218) (hn : n ≤ 6 * k) (hf : f_L_changed_b407 v1 v2 v3 v4 v5 M = some (r, M')) : V X G Z M k n (QN X G (QcI G Z r M') 8218 49308) 407 [(0, .ref (Z.1 0)), (1, .int v1), (2, .int v2), (3, .int v3), (4, .int v4), (5, .int v5)] [] := by
  unfold f_L_changed_b407 at hf
  refine r_iload hC dL_changed_407 5 rfl ?_
  refine r_if_eq 467 hC dL_changed_409 (by decide) (fun h => ?_) (fun h => ?_)
  · have hf := if_T hf h
    exact w_L_changed_b467 hC hz hZ hk43 hn43 v1 v2 v3 v4 v5   _ (by omega) (by omega) hf
  · have hf := if_F hf h
    refine r_iload_n hC dL_changed_412 2 rfl ?_
    refine r_bipush (v := 16) hC dL_changed_413 rfl ?_
    refine r_icmp_ge 467 hC dL_changed_415 (by decide) (fun h => ?_) (fun h => ?_)
    · have hf := if_T hf h
      exact w_L_changed_b467 hC hz hZ hk43 hn43 v1 v2 v3 v4 v5   _ (by omega) (by omega) hf
    · have hf := if_F hf h
      refine r_aload_n hC dL_changed_418 0 rfl ?_
      refine r_iload_n hC dL_changed_419 2 rfl ?_
      refine r_wcall [] (fun r M1 h => c_L_tryInsertBeat (cx_st hC) hz hZ v2 _ r M1 h) hf cs_L_149 hC rfl rfl (by decide) (by decide) (Nat.le_of_ble_eq_true rfl) (by omega) (by omega) dL_changed_420 (fun x57 M58 hf => ?_)
      refine r_iload_n hC dL_changed_423 2 rfl ?_
      refine r_iconst (v := 1) hC dL_changed_424 rfl ?_
      refine r_iadd hC dL_changed_425 ?_
      refine r_icmp_ne 464 hC dL_changed_426 (by decide) (fun h => ?_) (fun h => ?_)
      · have hf := if_F hf h
        refine r_L [0, 1, 2, 3, 4] rfl ?_
        exact w_L_changed_b464 hC hz hZ hk43 hn43 v1 v2 v3 v4   _ (by omega) (by omega) hf
      · have hf := if_T hf h
        refine r_aload_n hC dL_changed_429 0 rfl ?_
        refine r_iconst (v := 0) hC dL_changed_430 rfl ?_
        refine r_iload_n hC dL_changed_431 2 rfl ?_
        refine r_iconst (v := 1) hC dL_changed_432 rfl ?_
        refine r_wcall [] (fun r M1 h => c_L_tryCell (cx_st hC) hz hZ 0 v2 1 _ r M1 h) hf cs_L_127 hC rfl rfl (by decide) (by decide) (Nat.le_of_ble_eq_true rfl) (by omega) (by omega) dL_changed_433 (fun x59 M60 hf => ?_)
        refine r_bipush (v := (-9)) hC dL_changed_436 rfl ?_
        refine r_icmp_ne 464 hC dL_changed_438 (by decide) (fun h => ?_) (fun h => ?_)
        · have hf := if_F hf h
          refine r_L [0, 1, 2, 3, 4] rfl ?_
          exact w_L_changed_b464 hC hz hZ hk43 hn43 v1 v2 v3 v4   _ (by omega) (by omega) hf
        · have hf := if_T hf h
          refine r_aload_n hC dL_changed_441 0 rfl ?_
          refine r_iload_n hC dL_changed_442 2 rfl ?_
          refine r_wcall [] (fun r M1 h => c_L_tryRemoveBeat (cx_st hC) hz hZ v2 _ r M1 h) hf cs_L_152 hC rfl rfl (by decide) (by decide) (Nat.le_of_ble_eq_true rfl) (by omega) (by omega) dL_changed_443 (fun x61 M62 hf => ?_)
          refine r_iload_n hC dL_changed_446 2 rfl ?_
          refine r_icmp_ne 464 hC dL_changed_447 (by decide) (fun h => ?_) (fun h => ?_)
          · have hf := if_F hf h
            refine r_L [0, 1, 2, 3, 4] rfl ?_
            exact w_L_changed_b464 hC hz hZ hk43 hn43 v1 v2 v3 v4   _ (by omega) (by omega) hf
          · have hf := if_T hf h
            refine r_aload_n hC dL_changed_450 0 rfl ?_
            refine r_iconst (v := 0) hC dL_changed_451 rfl ?_
            refine r_wcall [] (fun r M1 h => c_L_tryWhole (cx_st hC) hz hZ 0 _ r M1 h) hf cs_L_124 hC rfl rfl (by decide) (by decide) (Nat.le_of_ble_eq_true rfl) (by omega) (by omega) dL_changed_452 (fun x63 M64 hf => ?_)
            refine r_iload hC dL_changed_455 4 rfl ?_
            refine r_icmp_ne 464 hC dL_changed_457 (by decide) (fun h => ?_) (fun h => ?_)
            · have hf := if_F hf h
              refine r_L [0, 1, 2, 3, 4] rfl ?_
              exact w_L_changed_b464 hC hz hZ hk43 hn43 v1 v2 v3 v4   _ (by omega) (by omega) hf
            · have hf := if_T hf h
              refine r_iconst (v := 1) hC dL_changed_460 rfl ?_
              refine r_goto 465 hC dL_changed_461 (by decide) ?_
              refine r_L [0, 1, 2, 3, 4] rfl ?_
              exact w_L_changed_b465 hC hz hZ hk43 hn43 v1 v2 v3 v4  1 _ (by omega) (by omega) hf
set_option maxRecDepth 20000 in
set_option maxHeartbeats 1000000 in
theorem w_L_changed_b405 {X : XX} {G : GG} {Z : ZZ} {r : Int32} {M' : Mem}  {k n : Nat} (hC : Cx X G RL cL_changed (some .boolean) 12 8218 49308 16) (hz : ZOk G Z) (hZ : ZM Z) (hk43 : ZK G Z) (hn43 : 43 ∉ Z.2.2) (v1 : Int32) (v2 : Int32) (v3 : Int32) (v4 : Int32)   (s0 : Int32) (M : Mem) (hb : k + 113 ≤ 8218) (hn : n ≤ 6 * k) (hf : f_L_changed_b405 v1 v2 v3 v4 s0 M = some (r, M')) : V X G Z M k n (QN X G (QcI G Z r M') 8218 49308) 405 [(0, .ref (Z.1 0)), (1, .int v1), (2, .int v2), (3, .int v3), (4, .int v4)] [.int s0] := by
  unfold f_L_changed_b405 at hf
  refine r_istore (L' := [(5, .int s0), (0, .ref (Z.1 0)), (1, .int v1), (2, .int v2), (3, .int v3), (4, .int v4)]) hC dL_changed_405 (by decide) rfl ?_
  refine r_L [1, 2, 3, 4, 5, 0] rfl ?_
  exact w_L_changed_b407 hC hz hZ hk43 hn43 v1 v2 v3 v4 s0   _ (by omega) (by omega) hf
set_option maxRecDepth 20000 in
set_option maxHeartbeats 1000000 in
theorem w_L_changed_b404 {X : XX} {G : GG} {Z : ZZ} {r : Int32} {M' : Mem}  {k n : Nat} (hC : Cx X G RL cL_changed (some .boolean) 12 8218 49308 16) (hz : ZOk G Z) (hZ : ZM Z) (hk43 : ZK G Z) (hn43 : 43 ∉ Z.2.2) (v1 : Int32) (v2 : Int32) (v3 : Int32) (v4 : Int32)    (M : Mem) (hb : k + 113 ≤ 8218) (hn : n ≤ 6 * k) (hf : f_L_changed_b404 v1 v2 v3 v4 M = some (r, M')) : V X G Z M k n (QN X G (QcI G Z r M') 8218 49308) 404 [(0, .ref (Z.1 0)), (1, .int v1), (2, .int v2), (3, .int v3), (4, .int v4)] [] := by
  unfold f_L_changed_b404 at hf
  refine r_iconst (v := 0) hC dL_changed_404 rfl ?_
  exact w_L_changed_b405 hC hz hZ hk43 hn43 v1 v2 v3 v4  0 _ (by omega) (by omega) hf
set_option maxRecDepth 20000 in
set_option maxHeartbeats 1000000 in
theorem w_L_changed_b360 {X : XX} {G : GG} {Z : ZZ} {r : Int32} {M' : Mem}  {k n : Nat} (hC : Cx X G RL cL_changed (some .boolean) 12 8218 49308 16) (hz : ZOk G Z) (hZ : ZM Z) (hk43 : ZK G Z) (hn43 : 43 ∉ Z.2.2) (v1 : Int32) (v2 : Int32) (v3 : Int32) (v4 : Int32) (v5 : Int32)    (M : Mem) (hb : k + 116 ≤ 8218) (hn : n ≤ 6 * k) (hf : f_L_changed_b360 v1 v2 v3 v4 v5 M = some (r, M')) : V X G Z M k n (QN X G (QcI G Z r M') 8218 49308) 360 [(0, .ref (Z.1 0)), (1, .int v1), (2, .int v2), (3, .int v3), (4, .int v4), (5, .int v5)] [] := by
  unfold f_L_changed_b360 at hf
  refine r_iload hC dL_changed_360 5 rfl ?_
  refine r_if_eq 407 hC dL_changed_362 (by decide) (fun h => ?_) (fun h => ?_)
  · have hf := if_T hf h
    exact w_L_changed_b407 hC hz hZ hk43 hn43 v1 v2 v3 v4 v5   _ (by omega) (by omega) hf
  · have hf := if_F hf h
    refine r_iload_n hC dL_changed_365 3 rfl ?_
    refine r_iconst (v := 4) hC dL_changed_366 rfl ?_
    refine r_icmp_ge 407 hC dL_changed_367 (by decide) (fun h => ?_) (fun h => ?_)
    · have hf := if_T hf h
      exact w_L_changed_b407 hC hz hZ hk43 hn43 v1 v2 v3 v4 v5   _ (by omega) (by omega) hf
    · have hf := if_F hf h
      refine r_aload_n hC dL_changed_370 0 rfl ?_
      refine r_iconst (v := 1) hC dL_changed_371 rfl ?_
      refine r_wcall [] (fun r M1 h => c_L_tryStaff (cx_st hC) hz hZ 1 _ r M1 h) hf cs_L_145 hC rfl rfl (by decide) (by decide) (Nat.le_of_ble_eq_true rfl) (by omega) (by omega) dL_changed_372 (fun x49 M50 hf => ?_)
      refine r_iload_n hC dL_changed_375 3 rfl ?_
      refine r_iconst (v := 1) hC dL_changed_376 rfl ?_
      refine r_iadd hC dL_changed_377 ?_
      refine r_icmp_ne 404 hC dL_changed_378 (by decide) (fun h => ?_) (fun h => ?_)
      · have hf := if_F hf h
        refine r_L [0, 1, 2, 3, 4] rfl ?_
        exact w_L_changed_b404 hC hz hZ hk43 hn43 v1 v2 v3 v4   _ (by omega) (by omega) hf
      · have hf := if_T hf h
        refine r_aload_n hC dL_changed_381 0 rfl ?_
        refine r_iconst (v := 0) hC dL_changed_382 rfl ?_
        refine r_wcall [] (fun r M1 h => c_L_tryStaff (cx_st hC) hz hZ 0 _ r M1 h) hf cs_L_145 hC rfl rfl (by decide) (by decide) (Nat.le_of_ble_eq_true rfl) (by omega) (by omega) dL_changed_383 (fun x51 M52 hf => ?_)
        refine r_iload_n hC dL_changed_386 3 rfl ?_
        refine r_icmp_ne 404 hC dL_changed_387 (by decide) (fun h => ?_) (fun h => ?_)
        · have hf := if_F hf h
          refine r_L [0, 1, 2, 3, 4] rfl ?_
          exact w_L_changed_b404 hC hz hZ hk43 hn43 v1 v2 v3 v4   _ (by omega) (by omega) hf
        · have hf := if_T hf h
          refine r_aload_n hC dL_changed_390 0 rfl ?_
          refine r_iconst (v := 0) hC dL_changed_391 rfl ?_
          refine r_wcall [] (fun r M1 h => c_L_tryWhole (cx_st hC) hz hZ 0 _ r M1 h) hf cs_L_124 hC rfl rfl (by decide) (by decide) (Nat.le_of_ble_eq_true rfl) (by omega) (by omega) dL_changed_392 (fun x53 M54 hf => ?_)
          refine r_iload hC dL_changed_395 4 rfl ?_
          refine r_icmp_ne 404 hC dL_changed_397 (by decide) (fun h => ?_) (fun h => ?_)
          · have hf := if_F hf h
            refine r_L [0, 1, 2, 3, 4] rfl ?_
            exact w_L_changed_b404 hC hz hZ hk43 hn43 v1 v2 v3 v4   _ (by omega) (by omega) hf
          · have hf := if_T hf h
            refine r_iconst (v := 1) hC dL_changed_400 rfl ?_
            refine r_goto 405 hC dL_changed_401 (by decide) ?_
            refine r_L [0, 1, 2, 3, 4] rfl ?_
            exact w_L_changed_b405 hC hz hZ hk43 hn43 v1 v2 v3 v4  1 _ (by omega) (by omega) hf
set_option maxRecDepth 20000 in
set_option maxHeartbeats 1000000 in
theorem w_L_changed_b358 {X : XX} {G : GG} {Z : ZZ} {r : Int32} {M' : Mem}  {k n : Nat} (hC : Cx X G RL cL_changed (some .boolean) 12 8218 49308 16) (hz : ZOk G Z) (hZ : ZM Z) (hk43 : ZK G Z) (hn43 : 43 ∉ Z.2.2) (v1 : Int32) (v2 : Int32) (v3 : Int32) (v4 : Int32)   (s0 : Int32) (M : Mem) (hb : k + 116 ≤ 8218) (hn : n ≤ 6 * k) (hf : f_L_changed_b358 v1 v2 v3 v4 s0 M = some (r, M')) : V X G Z M k n (QN X G (QcI G Z r M') 8218 49308) 358 [(0, .ref (Z.1 0)), (1, .int v1), (2, .int v2), (3, .int v3), (4, .int v4)] [.int s0] := by
  unfold f_L_changed_b358 at hf
  refine r_istore (L' := [(5, .int s0), (0, .ref (Z.1 0)), (1, .int v1), (2, .int v2), (3, .int v3), (4, .int v4)]) hC dL_changed_358 (by decide) rfl ?_
  refine r_L [1, 2, 3, 4, 5, 0] rfl ?_
  exact w_L_changed_b360 hC hz hZ hk43 hn43 v1 v2 v3 v4 s0   _ (by omega) (by omega) hf
set_option maxRecDepth 20000 in
set_option maxHeartbeats 1000000 in
theorem w_L_changed_b357 {X : XX} {G : GG} {Z : ZZ} {r : Int32} {M' : Mem}  {k n : Nat} (hC : Cx X G RL cL_changed (some .boolean) 12 8218 49308 16) (hz : ZOk G Z) (hZ : ZM Z) (hk43 : ZK G Z) (hn43 : 43 ∉ Z.2.2) (v1 : Int32) (v2 : Int32) (v3 : Int32) (v4 : Int32)    (M : Mem) (hb : k + 116 ≤ 8218) (hn : n ≤ 6 * k) (hf : f_L_changed_b357 v1 v2 v3 v4 M = some (r, M')) : V X G Z M k n (QN X G (QcI G Z r M') 8218 49308) 357 [(0, .ref (Z.1 0)), (1, .int v1), (2, .int v2), (3, .int v3), (4, .int v4)] [] := by
  unfold f_L_changed_b357 at hf
  refine r_iconst (v := 0) hC dL_changed_357 rfl ?_
  exact w_L_changed_b358 hC hz hZ hk43 hn43 v1 v2 v3 v4  0 _ (by omega) (by omega) hf
set_option maxRecDepth 20000 in
set_option maxHeartbeats 1000000 in
theorem w_L_changed_b344 {X : XX} {G : GG} {Z : ZZ} {r : Int32} {M' : Mem}  {k n : Nat} (hC : Cx X G RL cL_changed (some .boolean) 12 8218 49308 16) (hz : ZOk G Z) (hZ : ZM Z) (hk43 : ZK G Z) (hn43 : 43 ∉ Z.2.2) (v1 : Int32) (v2 : Int32) (v3 : Int32) (v4 : Int32)    (M : Mem) (hb : k + 117 ≤ 8218) (hn : n ≤ 6 * k) (hf : f_L_changed_b344 v1 v2 v3 v4 M = some (r, M')) : V X G Z M k n (QN X G (QcI G Z r M') 8218 49308) 344 [(0, .ref (Z.1 0)), (1, .int v1), (2, .int v2), (3, .int v3), (4, .int v4)] [] := by
  unfold f_L_changed_b344 at hf
  refine r_aload_n hC dL_changed_344 0 rfl ?_
  refine r_iconst (v := 0) hC dL_changed_345 rfl ?_
  refine r_wcall [] (fun r M1 h => c_L_tryRestore (cx_st hC) hz hZ 0 _ r M1 h) hf cs_L_121 hC rfl rfl (by decide) (by decide) (Nat.le_of_ble_eq_true rfl) (by omega) (by omega) dL_changed_346 (fun x55 M56 hf => ?_)
  refine r_iload_n hC dL_changed_349 2 rfl ?_
  refine r_icmp_ne 357 hC dL_changed_350 (by decide) (fun h => ?_) (fun h => ?_)
  · have hf := if_F hf h
    exact w_L_changed_b357 hC hz hZ hk43 hn43 v1 v2 v3 v4   _ (by omega) (by omega) hf
  · have hf := if_T hf h
    refine r_iconst (v := 1) hC dL_changed_353 rfl ?_
    refine r_goto 358 hC dL_changed_354 (by decide) ?_
    exact w_L_changed_b358 hC hz hZ hk43 hn43 v1 v2 v3 v4  1 _ (by omega) (by omega) hf
set_option maxRecDepth 20000 in
set_option maxHeartbeats 1000000 in
theorem w_L_changed_b254 {X : XX} {G : GG} {Z : ZZ} {r : Int32} {M' : Mem}  {k n : Nat} (hC : Cx X G RL cL_changed (some .boolean) 12 8218 49308 16) (hz : ZOk G Z) (hZ : ZM Z) (hk43 : ZK G Z) (hn43 : 43 ∉ Z.2.2) (v1 : Int32) (v2 : Int32) (v3 : Int32) (v4 : Int32)   (s0 : Int32) (M : Mem) (hb : k + 123 ≤ 8218) (hn : n ≤ 6 * k) (hf : f_L_changed_b254 v1 v2 v3 v4 s0 M = some (r, M')) : V X G Z M k n (QN X G (QcI G Z r M') 8218 49308) 254 [(0, .ref (Z.1 0)), (1, .int v1), (2, .int v2), (3, .int v3), (4, .int v4)] [.int s0] := by
  unfold f_L_changed_b254 at hf
  refine r_istore (L' := [(5, .int s0), (0, .ref (Z.1 0)), (1, .int v1), (2, .int v2), (3, .int v3), (4, .int v4)]) hC dL_changed_254 (by decide) rfl ?_
  refine r_aload_n hC dL_changed_256 1 rfl ?_
  refine r_callVI [] (fun r M1 h => c_X5_smallestSpan (cx_st hC) hz hZ  _ r M1 h) hf cs_L_187 hC (z_1 hZ 0 (by decide) rfl) (q0 := (RX5, TX5, 7)) rfl rfl [] rfl rfl rfl (by decide) (by decide) (Nat.le_of_ble_eq_true rfl) (by omega) (by omega) dL_changed_257 (fun x35 M36 hf => ?_)
  refine r_istore (L' := [(12, .int x35), (5, .int s0), (0, .ref (Z.1 0)), (1, .int v1), (2, .int v2), (3, .int v3), (4, .int v4)]) hC dL_changed_260 (by decide) rfl ?_
  refine r_iload hC dL_changed_262 1 rfl ?_
  refine r_if_eq 360 hC dL_changed_264 (by decide) (fun h => ?_) (fun h => ?_)
  · have hf := if_T hf h
    refine r_L [2, 3, 4, 5, 6, 1] rfl ?_
    exact w_L_changed_b360 hC hz hZ hk43 hn43 v1 v2 v3 v4 s0   _ (by omega) (by omega) hf
  · have hf := if_F hf h
    refine r_iload hC dL_changed_267 0 rfl ?_
    refine r_bipush (v := (-9)) hC dL_changed_269 rfl ?_
    refine r_icmp_eq 360 hC dL_changed_271 (by decide) (fun h => ?_) (fun h => ?_)
    · have hf := if_T hf h
      refine r_L [2, 3, 4, 5, 6, 1] rfl ?_
      exact w_L_changed_b360 hC hz hZ hk43 hn43 v1 v2 v3 v4 s0   _ (by omega) (by omega) hf
    · have hf := if_F hf h
      refine r_aload_n hC dL_changed_274 2 rfl ?_
      refine r_iconst (v := 0) hC dL_changed_275 rfl ?_
      refine r_iload hC dL_changed_276 0 rfl ?_
      refine r_wcall [] (fun r M1 h => c_L_trySet (cx_st hC) hz hZ 0 x35 _ r M1 h) hf cs_L_131 hC rfl rfl (by decide) (by decide) (Nat.le_of_ble_eq_true rfl) (by omega) (by omega) dL_changed_278 (fun x37 M38 hf => ?_)
      refine r_if_le 357 hC dL_changed_281 (by decide) (fun h => ?_) (fun h => ?_)
      · have hf := if_T hf h
        refine r_L [2, 3, 4, 5, 6] rfl ?_
        exact w_L_changed_b357 hC hz hZ hk43 hn43 v1 v2 v3 v4   _ (by omega) (by omega) hf
      · have hf := if_F hf h
        refine r_aload_n hC dL_changed_284 2 rfl ?_
        refine r_iconst (v := 1) hC dL_changed_285 rfl ?_
        refine r_iload hC dL_changed_286 0 rfl ?_
        refine r_wcall [] (fun r M1 h => c_L_trySet (cx_st hC) hz hZ 1 x35 _ r M1 h) hf cs_L_131 hC rfl rfl (by decide) (by decide) (Nat.le_of_ble_eq_true rfl) (by omega) (by omega) dL_changed_288 (fun x39 M40 hf => ?_)
        refine r_if_le 357 hC dL_changed_291 (by decide) (fun h => ?_) (fun h => ?_)
        · have hf := if_T hf h
          refine r_L [2, 3, 4, 5, 6] rfl ?_
          exact w_L_changed_b357 hC hz hZ hk43 hn43 v1 v2 v3 v4   _ (by omega) (by omega) hf
        · have hf := if_F hf h
          refine r_aload_n hC dL_changed_294 2 rfl ?_
          refine r_iconst (v := 3) hC dL_changed_295 rfl ?_
          refine r_wcall [] (fun r M1 h => c_L_tryWhole (cx_st hC) hz hZ 3 _ r M1 h) hf cs_L_124 hC rfl rfl (by decide) (by decide) (Nat.le_of_ble_eq_true rfl) (by omega) (by omega) dL_changed_296 (fun x41 M42 hf => ?_)
          refine r_if_ne 357 hC dL_changed_299 (by decide) (fun h => ?_) (fun h => ?_)
          · have hf := if_F hf h
            refine r_L [2, 3, 4, 5, 6] rfl ?_
            exact w_L_changed_b357 hC hz hZ hk43 hn43 v1 v2 v3 v4   _ (by omega) (by omega) hf
          · have hf := if_T hf h
            refine r_iload hC dL_changed_302 0 rfl ?_
            refine r_iconst (v := 1) hC dL_changed_304 rfl ?_
            refine r_icmp_eq 344 hC dL_changed_305 (by decide) (fun h => ?_) (fun h => ?_)
            · have hf := if_T hf h
              refine r_L [2, 3, 4, 5, 6] rfl ?_
              exact w_L_changed_b344 hC hz hZ hk43 hn43 v1 v2 v3 v4   _ (by omega) (by omega) hf
            · have hf := if_F hf h
              refine r_aload_n hC dL_changed_308 2 rfl ?_
              refine r_iconst (v := 0) hC dL_changed_309 rfl ?_
              refine r_iload hC dL_changed_310 0 rfl ?_
              refine r_iconst (v := 1) hC dL_changed_312 rfl ?_
              refine r_isub hC dL_changed_313 ?_
              refine r_wcall [] (fun r M1 h => c_L_trySet (cx_st hC) hz hZ 0 (x35 - 1) _ r M1 h) hf cs_L_131 hC rfl rfl (by decide) (by decide) (Nat.le_of_ble_eq_true rfl) (by omega) (by omega) dL_changed_314 (fun x43 M44 hf => ?_)
              refine r_iload hC dL_changed_317 0 rfl ?_
              refine r_icmp_ne 357 hC dL_changed_319 (by decide) (fun h => ?_) (fun h => ?_)
              · have hf := if_F hf h
                refine r_L [2, 3, 4, 5, 6] rfl ?_
                exact w_L_changed_b357 hC hz hZ hk43 hn43 v1 v2 v3 v4   _ (by omega) (by omega) hf
              · have hf := if_T hf h
                refine r_aload_n hC dL_changed_322 2 rfl ?_
                refine r_iconst (v := 1) hC dL_changed_323 rfl ?_
                refine r_iload hC dL_changed_324 0 rfl ?_
                refine r_iconst (v := 1) hC dL_changed_326 rfl ?_
                refine r_isub hC dL_changed_327 ?_
                refine r_wcall [] (fun r M1 h => c_L_trySet (cx_st hC) hz hZ 1 (x35 - 1) _ r M1 h) hf cs_L_131 hC rfl rfl (by decide) (by decide) (Nat.le_of_ble_eq_true rfl) (by omega) (by omega) dL_changed_328 (fun x45 M46 hf => ?_)
                refine r_iload hC dL_changed_331 0 rfl ?_
                refine r_icmp_ne 357 hC dL_changed_333 (by decide) (fun h => ?_) (fun h => ?_)
                · have hf := if_F hf h
                  refine r_L [2, 3, 4, 5, 6] rfl ?_
                  exact w_L_changed_b357 hC hz hZ hk43 hn43 v1 v2 v3 v4   _ (by omega) (by omega) hf
                · have hf := if_T hf h
                  refine r_aload_n hC dL_changed_336 2 rfl ?_
                  refine r_iconst (v := 3) hC dL_changed_337 rfl ?_
                  refine r_wcall [] (fun r M1 h => c_L_tryWhole (cx_st hC) hz hZ 3 _ r M1 h) hf cs_L_124 hC rfl rfl (by decide) (by decide) (Nat.le_of_ble_eq_true rfl) (by omega) (by omega) dL_changed_338 (fun x47 M48 hf => ?_)
                  refine r_if_le 357 hC dL_changed_341 (by decide) (fun h => ?_) (fun h => ?_)
                  · have hf := if_T hf h
                    refine r_L [2, 3, 4, 5, 6] rfl ?_
                    exact w_L_changed_b357 hC hz hZ hk43 hn43 v1 v2 v3 v4   _ (by omega) (by omega) hf
                  · have hf := if_F hf h
                    refine r_L [2, 3, 4, 5, 6] rfl ?_
                    exact w_L_changed_b344 hC hz hZ hk43 hn43 v1 v2 v3 v4   _ (by omega) (by omega) hf
set_option maxRecDepth 20000 in
set_option maxHeartbeats 1000000 in
theorem w_L_changed_b253 {X : XX} {G : GG} {Z : ZZ} {r : Int32} {M' : Mem}  {k n : Nat} (hC : Cx X G RL cL_changed (some .boolean) 12 8218 49308 16) (hz : ZOk G Z) (hZ : ZM Z) (hk43 : ZK G Z) (hn43 : 43 ∉ Z.2.2) (v1 : Int32) (v2 : Int32) (v3 : Int32) (v4 : Int32)    (M : Mem) (hb : k + 123 ≤ 8218) (hn : n ≤ 6 * k) (hf : f_L_changed_b253 v1 v2 v3 v4 M = some (r, M')) : V X G Z M k n (QN X G (QcI G Z r M') 8218 49308) 253 [(0, .ref (Z.1 0)), (1, .int v1), (2, .int v2), (3, .int v3), (4, .int v4)] [] := by
  unfold f_L_changed_b253 at hf
  refine r_iconst (v := 0) hC dL_changed_253 rfl ?_
  exact w_L_changed_b254 hC hz hZ hk43 hn43 v1 v2 v3 v4  0 _ (by omega) (by omega) hf
set_option maxRecDepth 20000 in
set_option maxHeartbeats 1000000 in
theorem w_L_changed_b189 {X : XX} {G : GG} {Z : ZZ} {r : Int32} {M' : Mem}  {k n : Nat} (hC : Cx X G RL cL_changed (some .boolean) 12 8218 49308 16) (hz : ZOk G Z) (hZ : ZM Z) (hk43 : ZK G Z) (hn43 : 43 ∉ Z.2.2) (v1 : Int32) (v2 : Int32) (v3 : Int32) (v4 : Int32) (v5 : Int32) (v8 : Int32)   (s0 : Int32) (M : Mem) (hb : k + 127 ≤ 8218) (hn : n ≤ 6 * k) (hf : f_L_changed_b189 v1 v2 v3 v4 v5 v8 s0 M = some (r, M')) : V X G Z M k n (QN X G (QcI G Z r M') 8218 49308) 189 [(0, .ref (Z.1 0)), (1, .int v1), (2, .int v2), (3, .int v3), (4, .int v4), (5, .int v5), (8, .int v8)] [.int s0] := by
  unfold f_L_changed_b189 at hf
  refine r_istore (L' := [(9, .int s0), (0, .ref (Z.1 0)), (1, .int v1), (2, .int v2), (3, .int v3), (4, .int v4), (5, .int v5), (8, .int v8)]) hC dL_changed_189 (by decide) rfl ?_
  refine r_iload_n hC dL_changed_191 2 rfl ?_
  refine r_sipush (v := 512) hC dL_changed_192 rfl ?_
  refine r_idiv hC dL_changed_195 (by decide) ?_
  refine r_bipush (v := 8) hC dL_changed_196 rfl ?_
  refine r_irem hC dL_changed_198 (by decide) ?_
  refine r_istore (L' := [(10, .int ((v1 / 512) - (v1 / 512) / 8 * 8)), (9, .int s0), (0, .ref (Z.1 0)), (1, .int v1), (2, .int v2), (3, .int v3), (4, .int v4), (5, .int v5), (8, .int v8)]) hC dL_changed_199 (by decide) rfl ?_
  refine r_aload_n hC dL_changed_201 2 rfl ?_
  refine r_iload hC dL_changed_202 8 rfl ?_
  refine r_iload hC dL_changed_204 1 rfl ?_
  refine r_iload hC dL_changed_206 0 rfl ?_
  refine r_wcall [] (fun r M1 h => c_L_tryWhatIf (cx_st hC) hz hZ v8 s0 ((v1 / 512) - (v1 / 512) / 8 * 8) _ r M1 h) hf cs_L_164 hC rfl rfl (by decide) (by decide) (Nat.le_of_ble_eq_true rfl) (by omega) (by omega) dL_changed_208 (fun x27 M28 hf => ?_)
  refine r_istore (L' := [(11, .int x27), (10, .int ((v1 / 512) - (v1 / 512) / 8 * 8)), (9, .int s0), (0, .ref (Z.1 0)), (1, .int v1), (2, .int v2), (3, .int v3), (4, .int v4), (5, .int v5), (8, .int v8)]) hC dL_changed_211 (by decide) rfl ?_
  refine r_iload hC dL_changed_213 8 rfl ?_
  refine r_if_eq 253 hC dL_changed_215 (by decide) (fun h => ?_) (fun h => ?_)
  · have hf := if_T hf h
    refine r_L [3, 4, 5, 6, 7] rfl ?_
    exact w_L_changed_b253 hC hz hZ hk43 hn43 v1 v2 v3 v4   _ (by omega) (by omega) hf
  · have hf := if_F hf h
    refine r_aload_n hC dL_changed_218 3 rfl ?_
    refine r_iload hC dL_changed_219 9 rfl ?_
    refine r_iload hC dL_changed_221 2 rfl ?_
    refine r_wcall [] (fun r M1 h => c_L_trySet (cx_st hC) hz hZ v8 s0 _ r M1 h) hf cs_L_131 hC rfl rfl (by decide) (by decide) (Nat.le_of_ble_eq_true rfl) (by omega) (by omega) dL_changed_223 (fun x29 M30 hf => ?_)
    refine r_if_lt 253 hC dL_changed_226 (by decide) (fun h => ?_) (fun h => ?_)
    · have hf := if_T hf h
      refine r_L [3, 4, 5, 6, 7] rfl ?_
      exact w_L_changed_b253 hC hz hZ hk43 hn43 v1 v2 v3 v4   _ (by omega) (by omega) hf
    · have hf := if_F hf h
      refine r_aload_n hC dL_changed_229 3 rfl ?_
      refine r_iload hC dL_changed_230 1 rfl ?_
      refine r_wcall [] (fun r M1 h => c_L_tryWhole (cx_st hC) hz hZ ((v1 / 512) - (v1 / 512) / 8 * 8) _ r M1 h) hf cs_L_124 hC rfl rfl (by decide) (by decide) (Nat.le_of_ble_eq_true rfl) (by omega) (by omega) dL_changed_232 (fun x31 M32 hf => ?_)
      refine r_iload hC dL_changed_235 0 rfl ?_
      refine r_icmp_ne 253 hC dL_changed_237 (by decide) (fun h => ?_) (fun h => ?_)
      · have hf := if_F hf h
        refine r_L [3, 4, 5, 6, 7] rfl ?_
        exact w_L_changed_b253 hC hz hZ hk43 hn43 v1 v2 v3 v4   _ (by omega) (by omega) hf
      · have hf := if_T hf h
        refine r_aload_n hC dL_changed_240 3 rfl ?_
        refine r_iconst (v := 0) hC dL_changed_241 rfl ?_
        refine r_wcall [] (fun r M1 h => c_L_tryRestore (cx_st hC) hz hZ 0 _ r M1 h) hf cs_L_121 hC rfl rfl (by decide) (by decide) (Nat.le_of_ble_eq_true rfl) (by omega) (by omega) dL_changed_242 (fun x33 M34 hf => ?_)
        refine r_iload_n hC dL_changed_245 5 rfl ?_
        refine r_icmp_ne 253 hC dL_changed_246 (by decide) (fun h => ?_) (fun h => ?_)
        · have hf := if_F hf h
          refine r_L [3, 4, 5, 6, 7] rfl ?_
          exact w_L_changed_b253 hC hz hZ hk43 hn43 v1 v2 v3 v4   _ (by omega) (by omega) hf
        · have hf := if_T hf h
          refine r_iconst (v := 1) hC dL_changed_249 rfl ?_
          refine r_goto 254 hC dL_changed_250 (by decide) ?_
          refine r_L [3, 4, 5, 6, 7] rfl ?_
          exact w_L_changed_b254 hC hz hZ hk43 hn43 v1 v2 v3 v4  1 _ (by omega) (by omega) hf
set_option maxRecDepth 20000 in
set_option maxHeartbeats 1000000 in
theorem w_L_changed_b124 {X : XX} {G : GG} {Z : ZZ} {r : Int32} {M' : Mem}  {k n : Nat} (hC : Cx X G RL cL_changed (some .boolean) 12 8218 49308 16) (hz : ZOk G Z) (hZ : ZM Z) (hk43 : ZK G Z) (hn43 : 43 ∉ Z.2.2) (v1 : Int32) (v2 : Int32) (v3 : Int32) (v4 : Int32)   (s0 : Int32) (M : Mem) (hb : k + 127 ≤ 8218) (hn : n ≤ 6 * k) (hf : f_L_changed_b124 v1 v2 v3 v4 s0 M = some (r, M')) : V X G Z M k n (QN X G (QcI G Z r M') 8218 49308) 124 [(0, .ref (Z.1 0)), (1, .int v1), (2, .int v2), (3, .int v3), (4, .int v4)] [.int s0] := by
  unfold f_L_changed_b124 at hf
  refine r_istore (L' := [(5, .int s0), (0, .ref (Z.1 0)), (1, .int v1), (2, .int v2), (3, .int v3), (4, .int v4)]) hC dL_changed_124 (by decide) rfl ?_
  refine r_iload_n hC dL_changed_126 2 rfl ?_
  refine r_bipush (v := 6) hC dL_changed_127 rfl ?_
  refine r_irem hC dL_changed_129 (by decide) ?_
  refine r_istore (L' := [(8, .int (v1 - v1 / 6 * 6)), (5, .int s0), (0, .ref (Z.1 0)), (1, .int v1), (2, .int v2), (3, .int v3), (4, .int v4)]) hC dL_changed_130 (by decide) rfl ?_
  refine r_iload hC dL_changed_132 0 rfl ?_
  refine r_iconst (v := 2) hC dL_changed_134 rfl ?_
  refine r_icmp_ge 150 hC dL_changed_135 (by decide) (fun h => ?_) (fun h => ?_)
  · have hf := if_T hf h
    refine r_iload hC dL_changed_150 0 rfl ?_
    refine r_iconst (v := 2) hC dL_changed_152 rfl ?_
    refine r_icmp_ne 167 hC dL_changed_153 (by decide) (fun h => ?_) (fun h => ?_)
    · have hf := if_F hf h
      refine r_iload hC dL_changed_167 0 rfl ?_
      refine r_iconst (v := 3) hC dL_changed_169 rfl ?_
      refine r_icmp_ne 183 hC dL_changed_170 (by decide) (fun h => ?_) (fun h => ?_)
      · have hf := if_F hf h
        refine r_iload_n hC dL_changed_183 3 rfl ?_
        refine r_bipush (v := 8) hC dL_changed_184 rfl ?_
        refine r_idiv hC dL_changed_186 (by decide) ?_
        refine r_iconst (v := 2) hC dL_changed_187 rfl ?_
        refine r_irem hC dL_changed_188 (by decide) ?_
        refine r_L [2, 3, 4, 5, 6, 1, 0] rfl ?_
        exact w_L_changed_b189 hC hz hZ hk43 hn43 v1 v2 v3 v4 s0 (v1 - v1 / 6 * 6)  ((v1 / 8) - (v1 / 8) / 2 * 2) _ (by omega) (by omega) hf
      · have hf := if_T hf h
        refine r_iload_n hC dL_changed_173 3 rfl ?_
        refine r_bipush (v := 8) hC dL_changed_174 rfl ?_
        refine r_idiv hC dL_changed_176 (by decide) ?_
        refine r_bipush (v := 10) hC dL_changed_177 rfl ?_
        refine r_irem hC dL_changed_179 (by decide) ?_
        refine r_goto 189 hC dL_changed_180 (by decide) ?_
        refine r_L [2, 3, 4, 5, 6, 1, 0] rfl ?_
        exact w_L_changed_b189 hC hz hZ hk43 hn43 v1 v2 v3 v4 s0 (v1 - v1 / 6 * 6)  ((v1 / 8) - (v1 / 8) / 10 * 10) _ (by omega) (by omega) hf
    · have hf := if_T hf h
      refine r_iconst (v := 1) hC dL_changed_156 rfl ?_
      refine r_iload_n hC dL_changed_157 3 rfl ?_
      refine r_bipush (v := 8) hC dL_changed_158 rfl ?_
      refine r_idiv hC dL_changed_160 (by decide) ?_
      refine r_iconst (v := 5) hC dL_changed_161 rfl ?_
      refine r_irem hC dL_changed_162 (by decide) ?_
      refine r_iadd hC dL_changed_163 ?_
      refine r_goto 189 hC dL_changed_164 (by decide) ?_
      refine r_L [2, 3, 4, 5, 6, 1, 0] rfl ?_
      exact w_L_changed_b189 hC hz hZ hk43 hn43 v1 v2 v3 v4 s0 (v1 - v1 / 6 * 6)  (1 + ((v1 / 8) - (v1 / 8) / 5 * 5)) _ (by omega) (by omega) hf
  · have hf := if_F hf h
    refine r_iconst (v := 1) hC dL_changed_138 rfl ?_
    refine r_iload_n hC dL_changed_139 3 rfl ?_
    refine r_bipush (v := 8) hC dL_changed_140 rfl ?_
    refine r_idiv hC dL_changed_142 (by decide) ?_
    refine r_bipush (v := 24) hC dL_changed_143 rfl ?_
    refine r_irem hC dL_changed_145 (by decide) ?_
    refine r_iadd hC dL_changed_146 ?_
    refine r_goto 189 hC dL_changed_147 (by decide) ?_
    refine r_L [2, 3, 4, 5, 6, 1, 0] rfl ?_
    exact w_L_changed_b189 hC hz hZ hk43 hn43 v1 v2 v3 v4 s0 (v1 - v1 / 6 * 6)  (1 + ((v1 / 8) - (v1 / 8) / 24 * 24)) _ (by omega) (by omega) hf
set_option maxRecDepth 20000 in
set_option maxHeartbeats 1000000 in
theorem w_L_changed_b123 {X : XX} {G : GG} {Z : ZZ} {r : Int32} {M' : Mem}  {k n : Nat} (hC : Cx X G RL cL_changed (some .boolean) 12 8218 49308 16) (hz : ZOk G Z) (hZ : ZM Z) (hk43 : ZK G Z) (hn43 : 43 ∉ Z.2.2) (v1 : Int32) (v2 : Int32) (v3 : Int32) (v4 : Int32)    (M : Mem) (hb : k + 127 ≤ 8218) (hn : n ≤ 6 * k) (hf : f_L_changed_b123 v1 v2 v3 v4 M = some (r, M')) : V X G Z M k n (QN X G (QcI G Z r M') 8218 49308) 123 [(0, .ref (Z.1 0)), (1, .int v1), (2, .int v2), (3, .int v3), (4, .int v4)] [] := by
  unfold f_L_changed_b123 at hf
  refine r_iconst (v := 0) hC dL_changed_123 rfl ?_
  exact w_L_changed_b124 hC hz hZ hk43 hn43 v1 v2 v3 v4  0 _ (by omega) (by omega) hf
set_option maxRecDepth 20000 in
set_option maxHeartbeats 1000000 in
theorem w_L_changed_b44 {X : XX} {G : GG} {Z : ZZ} {r : Int32} {M' : Mem}  {k n : Nat} (hC : Cx X G RL cL_changed (some .boolean) 12 8218 49308 16) (hz : ZOk G Z) (hZ : ZM Z) (hk43 : ZK G Z) (hn43 : 43 ∉ Z.2.2) (v1 : Int32) (v2 : Int32) (v3 : Int32) (v4 : Int32)   (s0 : Int32) (M : Mem) (hb : k + 8213 ≤ 8218) (hn : n ≤ 6 * k) (hf : f_L_changed_b44 v1 v2 v3 v4 s0 M = some (r, M')) : V X G Z M k n (QN X G (QcI G Z r M') 8218 49308) 44 [(0, .ref (Z.1 0)), (1, .int v1), (2, .int v2), (3, .int v3), (4, .int v4)] [.int s0] := by
  unfold f_L_changed_b44 at hf
  refine r_istore (L' := [(5, .int s0), (0, .ref (Z.1 0)), (1, .int v1), (2, .int v2), (3, .int v3), (4, .int v4)]) hC dL_changed_44 (by decide) rfl ?_
  refine r_aload_n hC dL_changed_46 1 rfl ?_
  refine r_iconst (v := 0) hC dL_changed_47 rfl ?_
  refine r_wcall [] (fun r M1 h => c_L_tryWhole (cx_st hC) hz hZ 0 _ r M1 h) hf cs_L_124 hC rfl rfl (by decide) (by decide) (Nat.le_of_ble_eq_true rfl) (by omega) (by omega) dL_changed_48 (fun x11 M12 hf => ?_)
  refine r_istore (L' := [(6, .int x11), (5, .int s0), (0, .ref (Z.1 0)), (1, .int v1), (2, .int v2), (3, .int v3), (4, .int v4)]) hC dL_changed_51 (by decide) rfl ?_
  refine r_aload_n hC dL_changed_53 2 rfl ?_
  refine r_iconst (v := 0) hC dL_changed_54 rfl ?_
  refine r_iconst (v := 2) hC dL_changed_55 rfl ?_
  refine r_wcall [] (fun r M1 h => c_L_tryBeat (cx_st hC) hz hZ 0 2 _ r M1 h) hf cs_L_161 hC rfl rfl (by decide) (by decide) (Nat.le_of_ble_eq_true rfl) (by omega) (by omega) dL_changed_56 (fun x13 M14 hf => ?_)
  refine r_istore (L' := [(7, .int x13), (6, .int x11), (5, .int s0), (0, .ref (Z.1 0)), (1, .int v1), (2, .int v2), (3, .int v3), (4, .int v4)]) hC dL_changed_59 (by decide) rfl ?_
  refine r_iload hC dL_changed_61 2 rfl ?_
  refine r_if_eq 123 hC dL_changed_63 (by decide) (fun h => ?_) (fun h => ?_)
  · have hf := if_T hf h
    refine r_L [3, 4, 5, 6, 7] rfl ?_
    exact w_L_changed_b123 hC hz hZ hk43 hn43 v1 v2 v3 v4   _ (by omega) (by omega) hf
  · have hf := if_F hf h
    refine r_aload_n hC dL_changed_66 3 rfl ?_
    refine r_ccall [] (fun r M1 h => c_L_beats (cx_st hC) hz hZ hk43 hn43  _ r M1 h) hf cs_L_183 hC rfl rfl (by decide) (by decide) (Nat.le_of_ble_eq_true rfl) (by omega) (by omega) dL_changed_67 (fun x15 M16 hf => ?_)
    refine r_if_eq 123 hC dL_changed_70 (by decide) (fun h => ?_) (fun h => ?_)
    · have hf := if_T hf h
      refine r_L [3, 4, 5, 6, 7] rfl ?_
      exact w_L_changed_b123 hC hz hZ hk43 hn43 v1 v2 v3 v4   _ (by omega) (by omega) hf
    · have hf := if_F hf h
      refine r_aload_n hC dL_changed_73 3 rfl ?_
      refine r_iconst (v := 5) hC dL_changed_74 rfl ?_
      refine r_iconst (v := 1) hC dL_changed_75 rfl ?_
      refine r_wcall [] (fun r M1 h => c_L_trySet (cx_st hC) hz hZ 5 1 _ r M1 h) hf cs_L_131 hC rfl rfl (by decide) (by decide) (Nat.le_of_ble_eq_true rfl) (by omega) (by omega) dL_changed_76 (fun x17 M18 hf => ?_)
      refine r_if_ne 123 hC dL_changed_79 (by decide) (fun h => ?_) (fun h => ?_)
      · have hf := if_F hf h
        refine r_L [3, 4, 5, 6, 7] rfl ?_
        exact w_L_changed_b123 hC hz hZ hk43 hn43 v1 v2 v3 v4   _ (by omega) (by omega) hf
      · have hf := if_T hf h
        refine r_aload_n hC dL_changed_82 3 rfl ?_
        refine r_iconst (v := 0) hC dL_changed_83 rfl ?_
        refine r_wcall [] (fun r M1 h => c_L_tryWhole (cx_st hC) hz hZ 0 _ r M1 h) hf cs_L_124 hC rfl rfl (by decide) (by decide) (Nat.le_of_ble_eq_true rfl) (by omega) (by omega) dL_changed_84 (fun x19 M20 hf => ?_)
        refine r_iload hC dL_changed_87 1 rfl ?_
        refine r_icmp_gt 123 hC dL_changed_89 (by decide) (fun h => ?_) (fun h => ?_)
        · have hf := if_T hf h
          refine r_L [3, 4, 5, 6, 7] rfl ?_
          exact w_L_changed_b123 hC hz hZ hk43 hn43 v1 v2 v3 v4   _ (by omega) (by omega) hf
        · have hf := if_F hf h
          refine r_aload_n hC dL_changed_92 3 rfl ?_
          refine r_iconst (v := 0) hC dL_changed_93 rfl ?_
          refine r_iconst (v := 2) hC dL_changed_94 rfl ?_
          refine r_wcall [] (fun r M1 h => c_L_tryBeat (cx_st hC) hz hZ 0 2 _ r M1 h) hf cs_L_161 hC rfl rfl (by decide) (by decide) (Nat.le_of_ble_eq_true rfl) (by omega) (by omega) dL_changed_95 (fun x21 M22 hf => ?_)
          refine r_iload hC dL_changed_98 0 rfl ?_
          refine r_icmp_lt 123 hC dL_changed_100 (by decide) (fun h => ?_) (fun h => ?_)
          · have hf := if_T hf h
            refine r_L [3, 4, 5, 6, 7] rfl ?_
            exact w_L_changed_b123 hC hz hZ hk43 hn43 v1 v2 v3 v4   _ (by omega) (by omega) hf
          · have hf := if_F hf h
            refine r_aload_n hC dL_changed_103 3 rfl ?_
            refine r_ccall [] (fun r M1 h => c_L_beats (cx_st hC) hz hZ hk43 hn43  _ r M1 h) hf cs_L_183 hC rfl rfl (by decide) (by decide) (Nat.le_of_ble_eq_true rfl) (by omega) (by omega) dL_changed_104 (fun x23 M24 hf => ?_)
            refine r_if_eq 123 hC dL_changed_107 (by decide) (fun h => ?_) (fun h => ?_)
            · have hf := if_T hf h
              refine r_L [3, 4, 5, 6, 7] rfl ?_
              exact w_L_changed_b123 hC hz hZ hk43 hn43 v1 v2 v3 v4   _ (by omega) (by omega) hf
            · have hf := if_F hf h
              refine r_aload_n hC dL_changed_110 3 rfl ?_
              refine r_iconst (v := 0) hC dL_changed_111 rfl ?_
              refine r_wcall [] (fun r M1 h => c_L_tryRestore (cx_st hC) hz hZ 0 _ r M1 h) hf cs_L_121 hC rfl rfl (by decide) (by decide) (Nat.le_of_ble_eq_true rfl) (by omega) (by omega) dL_changed_112 (fun x25 M26 hf => ?_)
              refine r_iload_n hC dL_changed_115 5 rfl ?_
              refine r_icmp_ne 123 hC dL_changed_116 (by decide) (fun h => ?_) (fun h => ?_)
              · have hf := if_F hf h
                refine r_L [3, 4, 5, 6, 7] rfl ?_
                exact w_L_changed_b123 hC hz hZ hk43 hn43 v1 v2 v3 v4   _ (by omega) (by omega) hf
              · have hf := if_T hf h
                refine r_iconst (v := 1) hC dL_changed_119 rfl ?_
                refine r_goto 124 hC dL_changed_120 (by decide) ?_
                refine r_L [3, 4, 5, 6, 7] rfl ?_
                exact w_L_changed_b124 hC hz hZ hk43 hn43 v1 v2 v3 v4  1 _ (by omega) (by omega) hf
set_option maxRecDepth 20000 in
set_option maxHeartbeats 1000000 in
theorem w_L_changed_b43 {X : XX} {G : GG} {Z : ZZ} {r : Int32} {M' : Mem}  {k n : Nat} (hC : Cx X G RL cL_changed (some .boolean) 12 8218 49308 16) (hz : ZOk G Z) (hZ : ZM Z) (hk43 : ZK G Z) (hn43 : 43 ∉ Z.2.2) (v1 : Int32) (v2 : Int32) (v3 : Int32) (v4 : Int32)    (M : Mem) (hb : k + 8213 ≤ 8218) (hn : n ≤ 6 * k) (hf : f_L_changed_b43 v1 v2 v3 v4 M = some (r, M')) : V X G Z M k n (QN X G (QcI G Z r M') 8218 49308) 43 [(0, .ref (Z.1 0)), (1, .int v1), (2, .int v2), (3, .int v3), (4, .int v4)] [] := by
  unfold f_L_changed_b43 at hf
  refine r_iconst (v := 0) hC dL_changed_43 rfl ?_
  exact w_L_changed_b44 hC hz hZ hk43 hn43 v1 v2 v3 v4  0 _ (by omega) (by omega) hf
set_option maxRecDepth 20000 in
set_option maxHeartbeats 1000000 in
theorem w_L_changed {X : XX} {G : GG} {Z : ZZ} (hC : Cx X G RL cL_changed (some .boolean) 12 8218 49308 16) (hz : ZOk G Z) (hZ : ZM Z) (hk43 : ZK G Z) (hn43 : 43 ∉ Z.2.2) (v1 : Int32) (M : Mem) {r : Int32} {M' : Mem} (hf : f_L_changed v1 M = some (r, M')) : V X G Z M 0 0 (QN X G (QcI G Z r M') 8218 49308) 0 [(0, .ref (Z.1 0)), (1, .int v1)] [] := by
  have hb : 0 + 8218 ≤ 8218 := Nat.le_refl _
  have hn : 0 ≤ 6 * 0 := Nat.le_refl _
  unfold f_L_changed at hf
  refine r_aload_n hC dL_changed_0 0 rfl ?_
  refine r_bipush (v := 7) hC dL_changed_1 rfl ?_
  refine r_wcall [] (fun r M1 h => c_L_tryAbout (cx_st hC) hz hZ 7 _ r M1 h) hf cs_L_115 hC rfl rfl (by decide) (by decide) (Nat.le_of_ble_eq_true rfl) (by omega) (by omega) dL_changed_3 (fun x1 M2 hf => ?_)
  refine r_istore_n (L' := [(2, .int x1), (0, .ref (Z.1 0)), (1, .int v1)]) hC dL_changed_6 (by decide) rfl ?_
  refine r_aload_n hC dL_changed_7 1 rfl ?_
  refine r_bipush (v := 6) hC dL_changed_8 rfl ?_
  refine r_wcall [] (fun r M1 h => c_L_tryAbout (cx_st hC) hz hZ 6 _ r M1 h) hf cs_L_115 hC rfl rfl (by decide) (by decide) (Nat.le_of_ble_eq_true rfl) (by omega) (by omega) dL_changed_10 (fun x3 M4 hf => ?_)
  refine r_istore_n (L' := [(3, .int x3), (2, .int x1), (0, .ref (Z.1 0)), (1, .int v1)]) hC dL_changed_13 (by decide) rfl ?_
  refine r_aload_n hC dL_changed_14 2 rfl ?_
  refine r_iconst (v := 0) hC dL_changed_15 rfl ?_
  refine r_wcall [] (fun r M1 h => c_L_tryWhole (cx_st hC) hz hZ 0 _ r M1 h) hf cs_L_124 hC rfl rfl (by decide) (by decide) (Nat.le_of_ble_eq_true rfl) (by omega) (by omega) dL_changed_16 (fun x5 M6 hf => ?_)
  refine r_istore (L' := [(4, .int x5), (3, .int x3), (2, .int x1), (0, .ref (Z.1 0)), (1, .int v1)]) hC dL_changed_19 (by decide) rfl ?_
  refine r_aload_n hC dL_changed_21 3 rfl ?_
  refine r_iconst (v := 0) hC dL_changed_22 rfl ?_
  refine r_wcall [] (fun r M1 h => c_L_trySave (cx_st hC) hz hZ 0 _ r M1 h) hf cs_L_180 hC rfl rfl (by decide) (by decide) (Nat.le_of_ble_eq_true rfl) (by omega) (by omega) dL_changed_23 (fun x7 M8 hf => ?_)
  refine r_iload_n hC dL_changed_26 2 rfl ?_
  refine r_icmp_ne 43 hC dL_changed_27 (by decide) (fun h => ?_) (fun h => ?_)
  · have hf := if_F hf h
    refine r_L [3, 4, 2, 1, 0] rfl ?_
    exact w_L_changed_b43 hC hz hZ hk43 hn43 v1 x1 x3 x5   _ (by omega) (by omega) hf
  · have hf := if_T hf h
    refine r_aload_n hC dL_changed_30 3 rfl ?_
    refine r_iconst (v := 5) hC dL_changed_31 rfl ?_
    refine r_iconst (v := 0) hC dL_changed_32 rfl ?_
    refine r_wcall [] (fun r M1 h => c_L_trySet (cx_st hC) hz hZ 5 0 _ r M1 h) hf cs_L_131 hC rfl rfl (by decide) (by decide) (Nat.le_of_ble_eq_true rfl) (by omega) (by omega) dL_changed_33 (fun x9 M10 hf => ?_)
    refine r_if_lt 43 hC dL_changed_36 (by decide) (fun h => ?_) (fun h => ?_)
    · have hf := if_T hf h
      refine r_L [3, 4, 2, 1, 0] rfl ?_
      exact w_L_changed_b43 hC hz hZ hk43 hn43 v1 x1 x3 x5   _ (by omega) (by omega) hf
    · have hf := if_F hf h
      refine r_iconst (v := 1) hC dL_changed_39 rfl ?_
      refine r_goto 44 hC dL_changed_40 (by decide) ?_
      refine r_L [3, 4, 2, 1, 0] rfl ?_
      exact w_L_changed_b44 hC hz hZ hk43 hn43 v1 x1 x3 x5  1 _ (by omega) (by omega) hf
set_option maxRecDepth 20000 in
set_option maxHeartbeats 1000000 in
theorem c_L_changed {l : Launch} (hl : l.stackTraces = false) {G : GG} {Z : ZZ} (hz : ZOk G Z) (hZ : ZM Z) (hk43 : ZK G Z) (hn43 : 43 ∉ Z.2.2) (v1 : Int32) (M : Mem) (r : Int32) (M' : Mem) (hf : f_L_changed v1 M = some (r, M')) : CC (QcI G Z r M') l G Z yL_changed cL_changed 16 (some .boolean) 12 8218 49308 [.ref (Z.1 0), .int v1] M :=
  CC.of [(0, .ref (Z.1 0)), (1, .int v1)] hl (by decide +kernel) (Nat.le_of_ble_eq_true rfl) rfl (fun _ hC => w_L_changed hC hz hZ hk43 hn43 v1 M hf)
