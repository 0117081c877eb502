set_option maxRecDepth 20000 in
set_option maxHeartbeats 1000000 in
theorem w_L_law_b225 {X : XX} {G : GG} {Z : ZZ} {r : Unit} {M' : Mem} {B82 : Nat} {B137 : Nat} {k n : Nat} (hC : Cx X G RL cL_law (some .boolean) 14 600130 7301080 9) (hl : LawOk X G) (hz : ZOk G Z) (hZ : ZM Z) (hzq : ZOk G (swZ Z)) (hZq : ZM (swZ Z)) (hk43 : ZK G Z) (hn43 : 43 ∉ Z.2.2) (v4 : Int32) (v5 : Int32) (v6 : Int32) (v7 : Int32) (k82 : Int32 → Int32 → Mem → Option (Unit × Mem)) (k137 : Int32 → Int32 → Mem → Option (Unit × Mem)) (hk82 : ∀ (k n : Nat) (u3 : Int32) (u4 : Int32) (M : Mem), k ≤ B82 → n ≤ 6 * k + 60000 → k82 u3 u4 M = some (r, M') → V X G Z M k n (QL X) 82 [(0, .ref (G.2.2.2 3)), (1, .ref (Z.1 0)), (2, .ref (Z.1 400)), (3, .int u3), (4, .int u4)] []) (hk137 : ∀ (k n : Nat) (u3 : Int32) (u5 : Int32) (M : Mem), k ≤ B137 → n ≤ 6 * k + 60000 → k137 u3 u5 M = some (r, M') → V X G Z M k n (QL X) 137 [(0, .ref (G.2.2.2 3)), (1, .ref (Z.1 0)), (2, .ref (Z.1 400)), (3, .int u3), (4, .int v4), (5, .int u5)] []) (hB82 : B82 ≤ 600130) (hB137 : B137 ≤ 600130) (s0 : Int32) (M : Mem) (hb137 : k + 12766 ≤ B137) (hn : n ≤ 6 * k + 60000) (hf : f_L_law_b225 (scG G) (lnG G) v4 v5 v6 v7 k82 k137 s0 M = some (r, M')) : V X G Z M k n (QL X) 225 [(0, .ref (G.2.2.2 3)), (1, .ref (Z.1 0)), (2, .ref (Z.1 400)), (4, .int v4), (5, .int v5), (6, .int v6), (7, .int v7)] [.int s0] := by
  unfold f_L_law_b225 at hf
  refine r_istore_n (L' := [(3, .int s0), (0, .ref (G.2.2.2 3)), (1, .ref (Z.1 0)), (2, .ref (Z.1 400)), (4, .int v4), (5, .int v5), (6, .int v6), (7, .int v7)]) hC dL_law_225 (by decide) rfl ?_
  refine r_iload hC dL_law_226 5 rfl ?_
  refine r_iconst (v := 4) hC dL_law_228 rfl ?_
  refine r_irem hC dL_law_229 (by decide) ?_
  refine r_iconst (v := 3) hC dL_law_230 rfl ?_
  refine r_icmp_ne 335 hC dL_law_231 (by decide) (fun h => ?_) (fun h => ?_)
  · have hf := if_F hf h
    refine r_iinc (v := v5 + 1) (L' := [(5, .int (v5 + 1)), (3, .int s0), (0, .ref (G.2.2.2 3)), (1, .ref (Z.1 0)), (2, .ref (Z.1 400)), (4, .int v4), (6, .int v6), (7, .int v7)]) hC dL_law_335 5 rfl rfl (by decide) rfl ?_
    refine r_goto 137 hC dL_law_338 (by decide) ?_
    refine r_L [2, 3, 4, 1, 5, 0] rfl ?_
    exact hk137 _ _ _ _ _ (by omega) (by omega) hf
  · have hf := if_T hf h
    refine r_iload_n hC dL_law_234 0 rfl ?_
    refine r_if_eq 335 hC dL_law_235 (by decide) (fun h => ?_) (fun h => ?_)
    · have hf := if_T hf h
      refine r_iinc (v := v5 + 1) (L' := [(5, .int (v5 + 1)), (3, .int s0), (0, .ref (G.2.2.2 3)), (1, .ref (Z.1 0)), (2, .ref (Z.1 400)), (4, .int v4), (6, .int v6), (7, .int v7)]) hC dL_law_335 5 rfl rfl (by decide) rfl ?_
      refine r_goto 137 hC dL_law_338 (by decide) ?_
      refine r_L [2, 3, 4, 1, 5, 0] rfl ?_
      exact hk137 _ _ _ _ _ (by omega) (by omega) hf
    · have hf := if_F hf h
      refine r_aload_n hC dL_law_238 2 rfl ?_
      refine r_bipush (v := 7) hC dL_law_239 rfl ?_
      refine r_wcall [] (fun r M1 h => c_L_tryAbout (cx_st hC) hz hZ 7 _ r M1 h) hf cs_L_115 hC rfl rfl (by decide) (by decide) (Nat.le_of_ble_eq_true rfl) (by omega) (by omega) dL_law_241 (fun x35 M36 hf => ?_)
      refine r_istore (L' := [(8, .int x35), (3, .int s0), (0, .ref (G.2.2.2 3)), (1, .ref (Z.1 0)), (2, .ref (Z.1 400)), (4, .int v4), (5, .int v5), (6, .int v6), (7, .int v7)]) hC dL_law_244 (by decide) rfl ?_
      refine r_aload_n hC dL_law_246 3 rfl ?_
      refine r_ccall [] (fun r M1 h => c_L_beats (cx_st hC) hz hZ hk43 hn43  _ r M1 h) hf cs_L_183 hC rfl rfl (by decide) (by decide) (Nat.le_of_ble_eq_true rfl) (by omega) (by omega) dL_law_247 (fun x37 M38 hf => ?_)
      refine r_if_eq 333 hC dL_law_250 (by decide) (fun h => ?_) (fun h => ?_)
      · have hf := if_T hf h
        refine r_iconst (v := 0) hC dL_law_333 rfl ?_
        refine r_istore_n (L' := [(3, .int 0), (8, .int x35), (0, .ref (G.2.2.2 3)), (1, .ref (Z.1 0)), (2, .ref (Z.1 400)), (4, .int v4), (5, .int v5), (6, .int v6), (7, .int v7)]) hC dL_law_334 (by decide) rfl ?_
        refine r_iinc (v := v5 + 1) (L' := [(5, .int (v5 + 1)), (3, .int 0), (8, .int x35), (0, .ref (G.2.2.2 3)), (1, .ref (Z.1 0)), (2, .ref (Z.1 400)), (4, .int v4), (6, .int v6), (7, .int v7)]) hC dL_law_335 6 rfl rfl (by decide) rfl ?_
        refine r_goto 137 hC dL_law_338 (by decide) ?_
        refine r_L [3, 4, 5, 1, 6, 0] rfl ?_
        exact hk137 _ _ _ _ _ (by omega) (by omega) hf
      · have hf := if_F hf h
        refine r_aload_n hC dL_law_253 3 rfl ?_
        refine r_iload hC dL_law_254 7 rfl ?_
        refine r_ccall [] (fun r M1 h => c_L_scripts (cx_st hC) hz hZ v6 _ r M1 h) hf cs_L_246 hC rfl rfl (by decide) (by decide) (Nat.le_of_ble_eq_true rfl) (by omega) (by omega) dL_law_256 (fun x39 M40 hf => ?_)
        refine r_if_eq 333 hC dL_law_259 (by decide) (fun h => ?_) (fun h => ?_)
        · have hf := if_T hf h
          refine r_iconst (v := 0) hC dL_law_333 rfl ?_
          refine r_istore_n (L' := [(3, .int 0), (8, .int x35), (0, .ref (G.2.2.2 3)), (1, .ref (Z.1 0)), (2, .ref (Z.1 400)), (4, .int v4), (5, .int v5), (6, .int v6), (7, .int v7)]) hC dL_law_334 (by decide) rfl ?_
          refine r_iinc (v := v5 + 1) (L' := [(5, .int (v5 + 1)), (3, .int 0), (8, .int x35), (0, .ref (G.2.2.2 3)), (1, .ref (Z.1 0)), (2, .ref (Z.1 400)), (4, .int v4), (6, .int v6), (7, .int v7)]) hC dL_law_335 6 rfl rfl (by decide) rfl ?_
          refine r_goto 137 hC dL_law_338 (by decide) ?_
          refine r_L [3, 4, 5, 1, 6, 0] rfl ?_
          exact hk137 _ _ _ _ _ (by omega) (by omega) hf
        · have hf := if_F hf h
          refine r_aload_n hC dL_law_262 4 rfl ?_
          refine r_iconst (v := 0) hC dL_law_263 rfl ?_
          refine V_sw ?_
          refine r_wcall [] (fun r M1 h => c_L_trySave (cx_st hC) hzq hZq 0 _ r M1 h) hf cs_L_180 hC rfl rfl (by decide) (by decide) (Nat.le_of_ble_eq_true rfl) (by omega) (by omega) dL_law_264 (fun x41 M42 hf => ?_)
          refine V_sb ?_
          refine r_iload hC dL_law_267 0 rfl ?_
          refine r_icmp_ne 333 hC dL_law_269 (by decide) (fun h => ?_) (fun h => ?_)
          · have hf := if_F hf h
            refine r_iconst (v := 0) hC dL_law_333 rfl ?_
            refine r_istore_n (L' := [(3, .int 0), (8, .int x35), (0, .ref (G.2.2.2 3)), (1, .ref (Z.1 0)), (2, .ref (Z.1 400)), (4, .int v4), (5, .int v5), (6, .int v6), (7, .int v7)]) hC dL_law_334 (by decide) rfl ?_
            refine r_iinc (v := v5 + 1) (L' := [(5, .int (v5 + 1)), (3, .int 0), (8, .int x35), (0, .ref (G.2.2.2 3)), (1, .ref (Z.1 0)), (2, .ref (Z.1 400)), (4, .int v4), (6, .int v6), (7, .int v7)]) hC dL_law_335 6 rfl rfl (by decide) rfl ?_
            refine r_goto 137 hC dL_law_338 (by decide) ?_
            refine r_L [3, 4, 5, 1, 6, 0] rfl ?_
            exact hk137 _ _ _ _ _ (by omega) (by omega) hf
          · have hf := if_T hf h
            refine r_aload_n hC dL_law_272 3 rfl ?_
            refine r_iload hC dL_law_273 8 rfl ?_
            refine r_ccall [] (fun r M1 h => c_L_changed (cx_st hC) hz hZ hk43 hn43 v7 _ r M1 h) hf cs_L_250 hC rfl rfl (by decide) (by decide) (Nat.le_of_ble_eq_true rfl) (by omega) (by omega) dL_law_275 (fun x43 M44 hf => ?_)
            refine r_if_eq 333 hC dL_law_278 (by decide) (fun h => ?_) (fun h => ?_)
            · have hf := if_T hf h
              refine r_iconst (v := 0) hC dL_law_333 rfl ?_
              refine r_istore_n (L' := [(3, .int 0), (8, .int x35), (0, .ref (G.2.2.2 3)), (1, .ref (Z.1 0)), (2, .ref (Z.1 400)), (4, .int v4), (5, .int v5), (6, .int v6), (7, .int v7)]) hC dL_law_334 (by decide) rfl ?_
              refine r_iinc (v := v5 + 1) (L' := [(5, .int (v5 + 1)), (3, .int 0), (8, .int x35), (0, .ref (G.2.2.2 3)), (1, .ref (Z.1 0)), (2, .ref (Z.1 400)), (4, .int v4), (6, .int v6), (7, .int v7)]) hC dL_law_335 6 rfl rfl (by decide) rfl ?_
              refine r_goto 137 hC dL_law_338 (by decide) ?_
              refine r_L [3, 4, 5, 1, 6, 0] rfl ?_
              exact hk137 _ _ _ _ _ (by omega) (by omega) hf
            · have hf := if_F hf h
              refine r_aload_n hC dL_law_281 3 rfl ?_
              refine r_iconst (v := 0) hC dL_law_282 rfl ?_
              refine r_wcall [] (fun r M1 h => c_L_trySave (cx_st hC) hz hZ 0 _ r M1 h) hf cs_L_180 hC rfl rfl (by decide) (by decide) (Nat.le_of_ble_eq_true rfl) (by omega) (by omega) dL_law_283 (fun x45 M46 hf => ?_)
              refine r_iload hC dL_law_286 0 rfl ?_
              refine r_icmp_ne 333 hC dL_law_288 (by decide) (fun h => ?_) (fun h => ?_)
              · have hf := if_F hf h
                refine r_iconst (v := 0) hC dL_law_333 rfl ?_
                refine r_istore_n (L' := [(3, .int 0), (8, .int x35), (0, .ref (G.2.2.2 3)), (1, .ref (Z.1 0)), (2, .ref (Z.1 400)), (4, .int v4), (5, .int v5), (6, .int v6), (7, .int v7)]) hC dL_law_334 (by decide) rfl ?_
                refine r_iinc (v := v5 + 1) (L' := [(5, .int (v5 + 1)), (3, .int 0), (8, .int x35), (0, .ref (G.2.2.2 3)), (1, .ref (Z.1 0)), (2, .ref (Z.1 400)), (4, .int v4), (6, .int v6), (7, .int v7)]) hC dL_law_335 6 rfl rfl (by decide) rfl ?_
                refine r_goto 137 hC dL_law_338 (by decide) ?_
                refine r_L [3, 4, 5, 1, 6, 0] rfl ?_
                exact hk137 _ _ _ _ _ (by omega) (by omega) hf
              · have hf := if_T hf h
                refine r_aload_n hC dL_law_291 3 rfl ?_
                refine r_iconst (v := 0) hC dL_law_292 rfl ?_
                refine r_wcall [] (fun r M1 h => c_L_tryRestore (cx_st hC) hz hZ 0 _ r M1 h) hf cs_L_121 hC rfl rfl (by decide) (by decide) (Nat.le_of_ble_eq_true rfl) (by omega) (by omega) dL_law_293 (fun x47 M48 hf => ?_)
                refine r_iload hC dL_law_296 0 rfl ?_
                refine r_icmp_ne 333 hC dL_law_298 (by decide) (fun h => ?_) (fun h => ?_)
                · have hf := if_F hf h
                  refine r_iconst (v := 0) hC dL_law_333 rfl ?_
                  refine r_istore_n (L' := [(3, .int 0), (8, .int x35), (0, .ref (G.2.2.2 3)), (1, .ref (Z.1 0)), (2, .ref (Z.1 400)), (4, .int v4), (5, .int v5), (6, .int v6), (7, .int v7)]) hC dL_law_334 (by decide) rfl ?_
                  refine r_iinc (v := v5 + 1) (L' := [(5, .int (v5 + 1)), (3, .int 0), (8, .int x35), (0, .ref (G.2.2.2 3)), (1, .ref (Z.1 0)), (2, .ref (Z.1 400)), (4, .int v4), (6, .int v6), (7, .int v7)]) hC dL_law_335 6 rfl rfl (by decide) rfl ?_
                  refine r_goto 137 hC dL_law_338 (by decide) ?_
                  refine r_L [3, 4, 5, 1, 6, 0] rfl ?_
                  exact hk137 _ _ _ _ _ (by omega) (by omega) hf
                · have hf := if_T hf h
                  refine r_aload_n hC dL_law_301 4 rfl ?_
                  refine r_iconst (v := 0) hC dL_law_302 rfl ?_
                  refine V_sw ?_
                  refine r_wcall [] (fun r M1 h => c_L_tryRestore (cx_st hC) hzq hZq 0 _ r M1 h) hf cs_L_121 hC rfl rfl (by decide) (by decide) (Nat.le_of_ble_eq_true rfl) (by omega) (by omega) dL_law_303 (fun x49 M50 hf => ?_)
                  refine V_sb ?_
                  refine r_iload hC dL_law_306 0 rfl ?_
                  refine r_icmp_ne 333 hC dL_law_308 (by decide) (fun h => ?_) (fun h => ?_)
                  · have hf := if_F hf h
                    refine r_iconst (v := 0) hC dL_law_333 rfl ?_
                    refine r_istore_n (L' := [(3, .int 0), (8, .int x35), (0, .ref (G.2.2.2 3)), (1, .ref (Z.1 0)), (2, .ref (Z.1 400)), (4, .int v4), (5, .int v5), (6, .int v6), (7, .int v7)]) hC dL_law_334 (by decide) rfl ?_
                    refine r_iinc (v := v5 + 1) (L' := [(5, .int (v5 + 1)), (3, .int 0), (8, .int x35), (0, .ref (G.2.2.2 3)), (1, .ref (Z.1 0)), (2, .ref (Z.1 400)), (4, .int v4), (6, .int v6), (7, .int v7)]) hC dL_law_335 6 rfl rfl (by decide) rfl ?_
                    refine r_goto 137 hC dL_law_338 (by decide) ?_
                    refine r_L [3, 4, 5, 1, 6, 0] rfl ?_
                    exact hk137 _ _ _ _ _ (by omega) (by omega) hf
                  · have hf := if_T hf h
                    refine r_aload_n hC dL_law_311 3 rfl ?_
                    refine r_wcall [] (fun r M1 h => c_L_tryUndo (cx_st hC) hz hZ  _ r M1 h) hf cs_L_118 hC rfl rfl (by decide) (by decide) (Nat.le_of_ble_eq_true rfl) (by omega) (by omega) dL_law_312 (fun x51 M52 hf => ?_)
                    refine r_sipush (v := (-1003)) hC dL_law_315 rfl ?_
                    refine r_icmp_ne 333 hC dL_law_318 (by decide) (fun h => ?_) (fun h => ?_)
                    · have hf := if_F hf h
                      refine r_iconst (v := 0) hC dL_law_333 rfl ?_
                      refine r_istore_n (L' := [(3, .int 0), (8, .int x35), (0, .ref (G.2.2.2 3)), (1, .ref (Z.1 0)), (2, .ref (Z.1 400)), (4, .int v4), (5, .int v5), (6, .int v6), (7, .int v7)]) hC dL_law_334 (by decide) rfl ?_
                      refine r_iinc (v := v5 + 1) (L' := [(5, .int (v5 + 1)), (3, .int 0), (8, .int x35), (0, .ref (G.2.2.2 3)), (1, .ref (Z.1 0)), (2, .ref (Z.1 400)), (4, .int v4), (6, .int v6), (7, .int v7)]) hC dL_law_335 6 rfl rfl (by decide) rfl ?_
                      refine r_goto 137 hC dL_law_338 (by decide) ?_
                      refine r_L [3, 4, 5, 1, 6, 0] rfl ?_
                      exact hk137 _ _ _ _ _ (by omega) (by omega) hf
                    · have hf := if_T hf h
                      refine r_aload_n hC dL_law_321 3 rfl ?_
                      refine r_aload_n hC dL_law_322 4 rfl ?_
                      refine r_ccall [] (fun r M1 h => c_L_alike (cx_st hC) hz hZ hzq hZq  _ r M1 h) hf cs_L_235 hC rfl rfl (by decide) (by decide) (Nat.le_of_ble_eq_true rfl) (by omega) (by omega) dL_law_323 (fun x53 M54 hf => ?_)
                      refine r_if_eq 333 hC dL_law_326 (by decide) (fun h => ?_) (fun h => ?_)
                      · have hf := if_T hf h
                        refine r_iconst (v := 0) hC dL_law_333 rfl ?_
                        refine r_istore_n (L' := [(3, .int 0), (8, .int x35), (0, .ref (G.2.2.2 3)), (1, .ref (Z.1 0)), (2, .ref (Z.1 400)), (4, .int v4), (5, .int v5), (6, .int v6), (7, .int v7)]) hC dL_law_334 (by decide) rfl ?_
                        refine r_iinc (v := v5 + 1) (L' := [(5, .int (v5 + 1)), (3, .int 0), (8, .int x35), (0, .ref (G.2.2.2 3)), (1, .ref (Z.1 0)), (2, .ref (Z.1 400)), (4, .int v4), (6, .int v6), (7, .int v7)]) hC dL_law_335 6 rfl rfl (by decide) rfl ?_
                        refine r_goto 137 hC dL_law_338 (by decide) ?_
                        refine r_L [3, 4, 5, 1, 6, 0] rfl ?_
                        exact hk137 _ _ _ _ _ (by omega) (by omega) hf
                      · have hf := if_F hf h
                        refine r_iconst (v := 1) hC dL_law_329 rfl ?_
                        refine r_goto 334 hC dL_law_330 (by decide) ?_
                        refine r_istore_n (L' := [(3, .int 1), (8, .int x35), (0, .ref (G.2.2.2 3)), (1, .ref (Z.1 0)), (2, .ref (Z.1 400)), (4, .int v4), (5, .int v5), (6, .int v6), (7, .int v7)]) hC dL_law_334 (by decide) rfl ?_
                        refine r_iinc (v := v5 + 1) (L' := [(5, .int (v5 + 1)), (3, .int 1), (8, .int x35), (0, .ref (G.2.2.2 3)), (1, .ref (Z.1 0)), (2, .ref (Z.1 400)), (4, .int v4), (6, .int v6), (7, .int v7)]) hC dL_law_335 6 rfl rfl (by decide) rfl ?_
                        refine r_goto 137 hC dL_law_338 (by decide) ?_
                        refine r_L [3, 4, 5, 1, 6, 0] rfl ?_
                        exact hk137 _ _ _ _ _ (by omega) (by omega) hf
set_option maxRecDepth 20000 in
set_option maxHeartbeats 1000000 in
theorem w_L_law_b224 {X : XX} {G : GG} {Z : ZZ} {r : Unit} {M' : Mem} {B82 : Nat} {B137 : Nat} {k n : Nat} (hC : Cx X G RL cL_law (some .boolean) 14 600130 7301080 9) (hl : LawOk X G) (hz : ZOk G Z) (hZ : ZM Z) (hzq : ZOk G (swZ Z)) (hZq : ZM (swZ Z)) (hk43 : ZK G Z) (hn43 : 43 ∉ Z.2.2) (v4 : Int32) (v5 : Int32) (v6 : Int32) (v7 : Int32) (k82 : Int32 → Int32 → Mem → Option (Unit × Mem)) (k137 : Int32 → Int32 → Mem → Option (Unit × Mem)) (hk82 : ∀ (k n : Nat) (u3 : Int32) (u4 : Int32) (M : Mem), k ≤ B82 → n ≤ 6 * k + 60000 → k82 u3 u4 M = some (r, M') → V X G Z M k n (QL X) 82 [(0, .ref (G.2.2.2 3)), (1, .ref (Z.1 0)), (2, .ref (Z.1 400)), (3, .int u3), (4, .int u4)] []) (hk137 : ∀ (k n : Nat) (u3 : Int32) (u5 : Int32) (M : Mem), k ≤ B137 → n ≤ 6 * k + 60000 → k137 u3 u5 M = some (r, M') → V X G Z M k n (QL X) 137 [(0, .ref (G.2.2.2 3)), (1, .ref (Z.1 0)), (2, .ref (Z.1 400)), (3, .int u3), (4, .int v4), (5, .int u5)] []) (hB82 : B82 ≤ 600130) (hB137 : B137 ≤ 600130)  (M : Mem) (hb137 : k + 12766 ≤ B137) (hn : n ≤ 6 * k + 60000) (hf : f_L_law_b224 (scG G) (lnG G) v4 v5 v6 v7 k82 k137 M = some (r, M')) : V X G Z M k n (QL X) 224 [(0, .ref (G.2.2.2 3)), (1, .ref (Z.1 0)), (2, .ref (Z.1 400)), (4, .int v4), (5, .int v5), (6, .int v6), (7, .int v7)] [] := by
  unfold f_L_law_b224 at hf
  refine r_iconst (v := 0) hC dL_law_224 rfl ?_
  exact w_L_law_b225 hC hl hz hZ hzq hZq hk43 hn43 v4 v5 v6 v7 k82 k137 hk82 hk137 (by omega) (by omega) 0 _ (by omega) (by omega) hf
set_option maxRecDepth 20000 in
set_option maxHeartbeats 1000000 in
theorem w_L_law_b137 {X : XX} {G : GG} {Z : ZZ} {r : Unit} {M' : Mem} {B82 : Nat} {B137 : Nat} {k n : Nat} (hC : Cx X G RL cL_law (some .boolean) 14 600130 7301080 9) (hl : LawOk X G) (hz : ZOk G Z) (hZ : ZM Z) (hzq : ZOk G (swZ Z)) (hZq : ZM (swZ Z)) (hk43 : ZK G Z) (hn43 : 43 ∉ Z.2.2) (v4 : Int32) (k82 : Int32 → Int32 → Mem → Option (Unit × Mem)) (hk82 : ∀ (k n : Nat) (u3 : Int32) (u4 : Int32) (M : Mem), k ≤ B82 → n ≤ 6 * k + 60000 → k82 u3 u4 M = some (r, M') → V X G Z M k n (QL X) 82 [(0, .ref (G.2.2.2 3)), (1, .ref (Z.1 0)), (2, .ref (Z.1 400)), (3, .int u3), (4, .int u4)] []) (hB82 : B82 ≤ 600130) (k137 : Int32 → Int32 → Mem → Option (Unit × Mem)) (hk137 : ∀ (k n : Nat) (u3 : Int32) (u5 : Int32) (M : Mem), k ≤ B137 → n ≤ 6 * k + 60000 → k137 u3 u5 M = some (r, M') → V X G Z M k n (QL X) 137 [(0, .ref (G.2.2.2 3)), (1, .ref (Z.1 0)), (2, .ref (Z.1 400)), (3, .int u3), (4, .int v4), (5, .int u5)] []) (hB137 : B137 ≤ 600130) (v3 : Int32) (v5 : Int32) (M : Mem) (hb82 : k + 0 ≤ B82) (hn : n ≤ 6 * k + 60000) (hb137 : k + 13294 ≤ B137) (hf : f_L_law_b137 (scG G) (lnG G) v4 k82 k137 v3 v5 M = some (r, M')) : V X G Z M k n (QL X) 137 [(0, .ref (G.2.2.2 3)), (1, .ref (Z.1 0)), (2, .ref (Z.1 400)), (3, .int v3), (4, .int v4), (5, .int v5)] [] := by
  unfold f_L_law_b137 at hf
  refine r_iload hC dL_law_137 5 rfl ?_
  refine r_bipush (v := 12) hC dL_law_139 rfl ?_
  refine r_icmp_ge 341 hC dL_law_141 (by decide) (fun h => ?_) (fun h => ?_)
  · have hf := if_T hf h
    refine r_iinc (v := v4 + 1) (L' := [(4, .int (v4 + 1)), (0, .ref (G.2.2.2 3)), (1, .ref (Z.1 0)), (2, .ref (Z.1 400)), (3, .int v3), (5, .int v5)]) hC dL_law_341 4 rfl rfl (by decide) rfl ?_
    refine r_goto 82 hC dL_law_344 (by decide) ?_
    refine r_L [1, 2, 3, 4, 0] rfl ?_
    exact hk82 _ _ _ _ _ (by omega) (by omega) hf
  · have hf := if_F hf h
    refine r_iload_n hC dL_law_144 3 rfl ?_
    refine r_if_eq 341 hC dL_law_145 (by decide) (fun h => ?_) (fun h => ?_)
    · have hf := if_T hf h
      refine r_iinc (v := v4 + 1) (L' := [(4, .int (v4 + 1)), (0, .ref (G.2.2.2 3)), (1, .ref (Z.1 0)), (2, .ref (Z.1 400)), (3, .int v3), (5, .int v5)]) hC dL_law_341 4 rfl rfl (by decide) rfl ?_
      refine r_goto 82 hC dL_law_344 (by decide) ?_
      refine r_L [1, 2, 3, 4, 0] rfl ?_
      exact hk82 _ _ _ _ _ (by omega) (by omega) hf
    · have hf := if_F hf h
      refine r_aload_n hC dL_law_148 0 rfl ?_
      refine r_bipush (v := 50) hC dL_law_149 rfl ?_
      refine r_iload hC dL_law_151 4 rfl ?_
      refine r_imul hC dL_law_153 ?_
      refine r_bipush (v := 25) hC dL_law_154 rfl ?_
      refine r_iadd hC dL_law_156 ?_
      refine r_iconst (v := 2) hC dL_law_157 rfl ?_
      refine r_iload hC dL_law_158 5 rfl ?_
      refine r_imul hC dL_law_160 ?_
      refine r_iadd hC dL_law_161 ?_
      refine r_ccall [] (fun r M1 h => c_L_number (cx_st hC) hz hZ (((50 * v4) + 25) + (2 * v5)) _ r M1 h) hf cs_L_97 hC rfl rfl (by decide) (by decide) (Nat.le_of_ble_eq_true rfl) (by omega) (by omega) dL_law_162 (fun x23 M24 hf => ?_)
      refine r_istore (L' := [(6, .int x23), (0, .ref (G.2.2.2 3)), (1, .ref (Z.1 0)), (2, .ref (Z.1 400)), (3, .int v3), (4, .int v4), (5, .int v5)]) hC dL_law_165 (by decide) rfl ?_
      refine r_aload_n hC dL_law_167 1 rfl ?_
      refine r_bipush (v := 50) hC dL_law_168 rfl ?_
      refine r_iload hC dL_law_170 5 rfl ?_
      refine r_imul hC dL_law_172 ?_
      refine r_bipush (v := 26) hC dL_law_173 rfl ?_
      refine r_iadd hC dL_law_175 ?_
      refine r_iconst (v := 2) hC dL_law_176 rfl ?_
      refine r_iload hC dL_law_177 6 rfl ?_
      refine r_imul hC dL_law_179 ?_
      refine r_iadd hC dL_law_180 ?_
      refine r_ccall [] (fun r M1 h => c_L_number (cx_st hC) hz hZ (((50 * v4) + 26) + (2 * v5)) _ r M1 h) hf cs_L_97 hC rfl rfl (by decide) (by decide) (Nat.le_of_ble_eq_true rfl) (by omega) (by omega) dL_law_181 (fun x25 M26 hf => ?_)
      refine r_istore (L' := [(7, .int x25), (6, .int x23), (0, .ref (G.2.2.2 3)), (1, .ref (Z.1 0)), (2, .ref (Z.1 400)), (3, .int v3), (4, .int v4), (5, .int v5)]) hC dL_law_184 (by decide) rfl ?_
      refine r_aload_n hC dL_law_186 3 rfl ?_
      refine r_iload hC dL_law_187 1 rfl ?_
      refine r_iload hC dL_law_189 0 rfl ?_
      refine r_ccall [] (fun r M1 h => c_L_act (cx_st hC) hz hZ x23 x25 _ r M1 h) hf cs_L_243 hC rfl rfl (by decide) (by decide) (Nat.le_of_ble_eq_true rfl) (by omega) (by omega) dL_law_191 (fun x27 M28 hf => ?_)
      refine r_aload_n hC dL_law_194 4 rfl ?_
      refine r_iload hC dL_law_195 1 rfl ?_
      refine r_iload hC dL_law_197 0 rfl ?_
      refine V_sw ?_
      refine r_ccall [.int x27] (fun r M1 h => c_L_act (cx_st hC) hzq hZq x23 x25 _ r M1 h) hf cs_L_243 hC rfl rfl (by decide) (by decide) (Nat.le_of_ble_eq_true rfl) (by omega) (by omega) dL_law_199 (fun x29 M30 hf => ?_)
      refine V_sb ?_
      refine r_icmp_ne 224 hC dL_law_202 (by decide) (fun h => ?_) (fun h => ?_)
      · have hf := if_F hf h
        refine r_L [2, 3, 4, 6, 7, 1, 0] rfl ?_
        exact w_L_law_b224 hC hl hz hZ hzq hZq hk43 hn43 v4 v5 x23 x25 k82 k137 hk82 hk137 (by omega) (by omega)  _ (by omega) (by omega) hf
      · have hf := if_T hf h
        refine r_aload_n hC dL_law_205 4 rfl ?_
        refine V_sw ?_
        refine r_ccall [] (fun r M1 h => c_L_refuses (cx_st hC) hzq hZq  _ r M1 h) hf cs_L_232 hC rfl rfl (by decide) (by decide) (Nat.le_of_ble_eq_true rfl) (by omega) (by omega) dL_law_206 (fun x31 M32 hf => ?_)
        refine V_sb ?_
        refine r_if_eq 224 hC dL_law_209 (by decide) (fun h => ?_) (fun h => ?_)
        · have hf := if_T hf h
          refine r_L [2, 3, 4, 6, 7, 1, 0] rfl ?_
          exact w_L_law_b224 hC hl hz hZ hzq hZq hk43 hn43 v4 v5 x23 x25 k82 k137 hk82 hk137 (by omega) (by omega)  _ (by omega) (by omega) hf
        · have hf := if_F hf h
          refine r_aload_n hC dL_law_212 3 rfl ?_
          refine r_aload_n hC dL_law_213 4 rfl ?_
          refine r_ccall [] (fun r M1 h => c_L_alike (cx_st hC) hz hZ hzq hZq  _ r M1 h) hf cs_L_235 hC rfl rfl (by decide) (by decide) (Nat.le_of_ble_eq_true rfl) (by omega) (by omega) dL_law_214 (fun x33 M34 hf => ?_)
          refine r_if_eq 224 hC dL_law_217 (by decide) (fun h => ?_) (fun h => ?_)
          · have hf := if_T hf h
            refine r_L [2, 3, 4, 6, 7, 1, 0] rfl ?_
            exact w_L_law_b224 hC hl hz hZ hzq hZq hk43 hn43 v4 v5 x23 x25 k82 k137 hk82 hk137 (by omega) (by omega)  _ (by omega) (by omega) hf
          · have hf := if_F hf h
            refine r_iconst (v := 1) hC dL_law_220 rfl ?_
            refine r_goto 225 hC dL_law_221 (by decide) ?_
            refine r_L [2, 3, 4, 6, 7, 1, 0] rfl ?_
            exact w_L_law_b225 hC hl hz hZ hzq hZq hk43 hn43 v4 v5 x23 x25 k82 k137 hk82 hk137 (by omega) (by omega) 1 _ (by omega) (by omega) hf
set_option maxRecDepth 20000 in
set_option maxHeartbeats 1000000 in
theorem w_L_law_b133 {X : XX} {G : GG} {Z : ZZ} {r : Unit} {M' : Mem} {B82 : Nat} {k n : Nat} (hC : Cx X G RL cL_law (some .boolean) 14 600130 7301080 9) (hl : LawOk X G) (hz : ZOk G Z) (hZ : ZM Z) (hzq : ZOk G (swZ Z)) (hZq : ZM (swZ Z)) (hk43 : ZK G Z) (hn43 : 43 ∉ Z.2.2) (v4 : Int32) (k82 : Int32 → Int32 → Mem → Option (Unit × Mem)) (hk82 : ∀ (k n : Nat) (u3 : Int32) (u4 : Int32) (M : Mem), k ≤ B82 → n ≤ 6 * k + 60000 → k82 u3 u4 M = some (r, M') → V X G Z M k n (QL X) 82 [(0, .ref (G.2.2.2 3)), (1, .ref (Z.1 0)), (2, .ref (Z.1 400)), (3, .int u3), (4, .int u4)] []) (hB82 : B82 ≤ 600130) (s0 : Int32) (M : Mem) (hb82 : k + 172822 ≤ B82) (hn : n ≤ 6 * k + 60000) (hf : f_L_law_b133 (scG G) (lnG G) v4 k82 s0 M = some (r, M')) : V X G Z M k n (QL X) 133 [(0, .ref (G.2.2.2 3)), (1, .ref (Z.1 0)), (2, .ref (Z.1 400)), (4, .int v4)] [.int s0] := by
  unfold f_L_law_b133 at hf
  refine r_istore_n (L' := [(3, .int s0), (0, .ref (G.2.2.2 3)), (1, .ref (Z.1 0)), (2, .ref (Z.1 400)), (4, .int v4)]) hC dL_law_133 (by decide) rfl ?_
  refine r_iconst (v := 0) hC dL_law_134 rfl ?_
  refine r_istore (L' := [(5, .int 0), (3, .int s0), (0, .ref (G.2.2.2 3)), (1, .ref (Z.1 0)), (2, .ref (Z.1 400)), (4, .int v4)]) hC dL_law_135 (by decide) rfl ?_
  refine r_L [2, 3, 4, 1, 5, 0] rfl ?_
  exact lq2_idf (P := fun j (u3 : Int32) (u5 : Int32) (M : Mem) => ∀ k n : Nat, n ≤ 6 * k + 60000 → k + j * 13294 ≤ 600130 → k + (j * 13294 + 0) ≤ B82 → V X G Z M k n (QL X) 137 [(0, .ref (G.2.2.2 3)), (1, .ref (Z.1 0)), (2, .ref (Z.1 400)), (3, .int u3), (4, .int v4), (5, .int u5)] []) (fun j kk hkk u3 u5 M hf k n hn hq0 hq1 => w_L_law_b137 hC hl hz hZ hzq hZq hk43 hn43 v4 k82 hk82 (by omega) kk (fun k' n' u3 u5 M hB hn' hf' => hkk u3 u5 M hf' k' n' (by omega) (by omega) (by omega)) (k := k) (n := n) (B137 := k + 13294) (by omega) u3 u5 M (by omega) (by omega) (by omega) hf) 13 _ _ _ hf _ _ (by omega) (by omega) (by omega)
set_option maxRecDepth 20000 in
set_option maxHeartbeats 1000000 in
theorem w_L_law_b132 {X : XX} {G : GG} {Z : ZZ} {r : Unit} {M' : Mem} {B82 : Nat} {k n : Nat} (hC : Cx X G RL cL_law (some .boolean) 14 600130 7301080 9) (hl : LawOk X G) (hz : ZOk G Z) (hZ : ZM Z) (hzq : ZOk G (swZ Z)) (hZq : ZM (swZ Z)) (hk43 : ZK G Z) (hn43 : 43 ∉ Z.2.2) (v4 : Int32) (k82 : Int32 → Int32 → Mem → Option (Unit × Mem)) (hk82 : ∀ (k n : Nat) (u3 : Int32) (u4 : Int32) (M : Mem), k ≤ B82 → n ≤ 6 * k + 60000 → k82 u3 u4 M = some (r, M') → V X G Z M k n (QL X) 82 [(0, .ref (G.2.2.2 3)), (1, .ref (Z.1 0)), (2, .ref (Z.1 400)), (3, .int u3), (4, .int u4)] []) (hB82 : B82 ≤ 600130)  (M : Mem) (hb82 : k + 172822 ≤ B82) (hn : n ≤ 6 * k + 60000) (hf : f_L_law_b132 (scG G) (lnG G) v4 k82 M = some (r, M')) : V X G Z M k n (QL X) 132 [(0, .ref (G.2.2.2 3)), (1, .ref (Z.1 0)), (2, .ref (Z.1 400)), (4, .int v4)] [] := by
  unfold f_L_law_b132 at hf
  refine r_iconst (v := 0) hC dL_law_132 rfl ?_
  exact w_L_law_b133 hC hl hz hZ hzq hZq hk43 hn43 v4 k82 hk82 (by omega) 0 _ (by omega) (by omega) hf
set_option maxRecDepth 20000 in
set_option maxHeartbeats 1000000 in
theorem w_L_law_b82 {X : XX} {G : GG} {Z : ZZ} {r : Unit} {M' : Mem} {B82 : Nat} {k n : Nat} (hC : Cx X G RL cL_law (some .boolean) 14 600130 7301080 9) (hl : LawOk X G) (hz : ZOk G Z) (hZ : ZM Z) (hzq : ZOk G (swZ Z)) (hZq : ZM (swZ Z)) (hk43 : ZK G Z) (hn43 : 43 ∉ Z.2.2)    (k82 : Int32 → Int32 → Mem → Option (Unit × Mem)) (hk82 : ∀ (k n : Nat) (u3 : Int32) (u4 : Int32) (M : Mem), k ≤ B82 → n ≤ 6 * k + 60000 → k82 u3 u4 M = some (r, M') → V X G Z M k n (QL X) 82 [(0, .ref (G.2.2.2 3)), (1, .ref (Z.1 0)), (2, .ref (Z.1 400)), (3, .int u3), (4, .int u4)] []) (hB82 : B82 ≤ 600130) (v3 : Int32) (v4 : Int32) (M : Mem) (hb : k + 0 ≤ 600130) (hn : n ≤ 6 * k + 60000) (hb82 : k + 177743 ≤ B82) (hf : f_L_law_b82 (scG G) (lnG G) k82 v3 v4 M = some (r, M')) : V X G Z M k n (QL X) 82 [(0, .ref (G.2.2.2 3)), (1, .ref (Z.1 0)), (2, .ref (Z.1 400)), (3, .int v3), (4, .int v4)] [] := by
  unfold f_L_law_b82 at hf
  refine r_iload hC dL_law_82 4 rfl ?_
  refine r_iconst (v := 2) hC dL_law_84 rfl ?_
  refine r_icmp_ge 347 hC dL_law_85 (by decide) (fun h => ?_) (fun h => ?_)
  · have hf := if_T hf h
    refine r_iload_n hC dL_law_347 3 rfl ?_
    have hv := if_K hf
    have hf := if_V hf
    exact r_lawret hv hC hl (by omega) (by omega) dL_law_348
  · have hf := if_F hf h
    refine r_iload_n hC dL_law_88 3 rfl ?_
    refine r_if_eq 347 hC dL_law_89 (by decide) (fun h => ?_) (fun h => ?_)
    · have hf := if_T hf h
      refine r_iload_n hC dL_law_347 3 rfl ?_
      have hv := if_K hf
      have hf := if_V hf
      exact r_lawret hv hC hl (by omega) (by omega) dL_law_348
    · have hf := if_F hf h
      refine r_aload_n hC dL_law_92 1 rfl ?_
      refine r_aload_n hC dL_law_93 2 rfl ?_
      refine r_aload_n hC dL_law_94 0 rfl ?_
      refine r_bipush (v := 50) hC dL_law_95 rfl ?_
      refine r_iload hC dL_law_97 4 rfl ?_
      refine r_imul hC dL_law_99 ?_
      refine r_ccall [] (fun r M1 h => c_L_told (cx_st hC) hz hZ hzq hZq (50 * v4) _ r M1 h) hf cs_L_239 hC rfl rfl (by decide) (by decide) (Nat.le_of_ble_eq_true rfl) (by omega) (by omega) dL_law_100 (fun x15 M16 hf => ?_)
      refine r_if_eq 132 hC dL_law_103 (by decide) (fun h => ?_) (fun h => ?_)
      · have hf := if_T hf h
        refine r_L [0, 1, 2, 4] rfl ?_
        exact w_L_law_b132 hC hl hz hZ hzq hZq hk43 hn43 v4 k82 hk82 (by omega)  _ (by omega) (by omega) hf
      · have hf := if_F hf h
        refine r_aload_n hC dL_law_106 2 rfl ?_
        refine V_sw ?_
        refine r_ccall [] (fun r M1 h => c_L_refuses (cx_st hC) hzq hZq  _ r M1 h) hf cs_L_232 hC rfl rfl (by decide) (by decide) (Nat.le_of_ble_eq_true rfl) (by omega) (by omega) dL_law_107 (fun x17 M18 hf => ?_)
        refine V_sb ?_
        refine r_if_eq 132 hC dL_law_110 (by decide) (fun h => ?_) (fun h => ?_)
        · have hf := if_T hf h
          refine r_L [0, 1, 2, 4] rfl ?_
          exact w_L_law_b132 hC hl hz hZ hzq hZq hk43 hn43 v4 k82 hk82 (by omega)  _ (by omega) (by omega) hf
        · have hf := if_F hf h
          refine r_aload_n hC dL_law_113 1 rfl ?_
          refine r_aload_n hC dL_law_114 2 rfl ?_
          refine r_ccall [] (fun r M1 h => c_L_alike (cx_st hC) hz hZ hzq hZq  _ r M1 h) hf cs_L_235 hC rfl rfl (by decide) (by decide) (Nat.le_of_ble_eq_true rfl) (by omega) (by omega) dL_law_115 (fun x19 M20 hf => ?_)
          refine r_if_eq 132 hC dL_law_118 (by decide) (fun h => ?_) (fun h => ?_)
          · have hf := if_T hf h
            refine r_L [0, 1, 2, 4] rfl ?_
            exact w_L_law_b132 hC hl hz hZ hzq hZq hk43 hn43 v4 k82 hk82 (by omega)  _ (by omega) (by omega) hf
          · have hf := if_F hf h
            refine r_aload_n hC dL_law_121 1 rfl ?_
            refine r_ccall [] (fun r M1 h => c_L_beats (cx_st hC) hz hZ hk43 hn43  _ r M1 h) hf cs_L_183 hC rfl rfl (by decide) (by decide) (Nat.le_of_ble_eq_true rfl) (by omega) (by omega) dL_law_122 (fun x21 M22 hf => ?_)
            refine r_if_eq 132 hC dL_law_125 (by decide) (fun h => ?_) (fun h => ?_)
            · have hf := if_T hf h
              refine r_L [0, 1, 2, 4] rfl ?_
              exact w_L_law_b132 hC hl hz hZ hzq hZq hk43 hn43 v4 k82 hk82 (by omega)  _ (by omega) (by omega) hf
            · have hf := if_F hf h
              refine r_iconst (v := 1) hC dL_law_128 rfl ?_
              refine r_goto 133 hC dL_law_129 (by decide) ?_
              refine r_L [0, 1, 2, 4] rfl ?_
              exact w_L_law_b133 hC hl hz hZ hzq hZq hk43 hn43 v4 k82 hk82 (by omega) 1 _ (by omega) (by omega) hf
set_option maxRecDepth 20000 in
set_option maxHeartbeats 1000000 in
theorem w_L_law_b78 {X : XX} {G : GG} {Z : ZZ} {r : Unit} {M' : Mem}  {k n : Nat} (hC : Cx X G RL cL_law (some .boolean) 14 600130 7301080 9) (hl : LawOk X G) (hz : ZOk G Z) (hZ : ZM Z) (hzq : ZOk G (swZ Z)) (hZq : ZM (swZ Z)) (hk43 : ZK G Z) (hn43 : 43 ∉ Z.2.2)    (s0 : Int32) (M : Mem) (hb : k + 533229 ≤ 600130) (hn : n ≤ 6 * k + 60000) (hf : f_L_law_b78 (scG G) (lnG G) s0 M = some (r, M')) : V X G Z M k n (QL X) 78 [(0, .ref (G.2.2.2 3)), (1, .ref (Z.1 0)), (2, .ref (Z.1 400))] [.int s0] := by
  unfold f_L_law_b78 at hf
  refine r_istore_n (L' := [(3, .int s0), (0, .ref (G.2.2.2 3)), (1, .ref (Z.1 0)), (2, .ref (Z.1 400))]) hC dL_law_78 (by decide) rfl ?_
  refine r_iconst (v := 0) hC dL_law_79 rfl ?_
  refine r_istore (L' := [(4, .int 0), (3, .int s0), (0, .ref (G.2.2.2 3)), (1, .ref (Z.1 0)), (2, .ref (Z.1 400))]) hC dL_law_80 (by decide) rfl ?_
  refine r_L [2, 3, 4, 1, 0] rfl ?_
  exact lq2_idf (P := fun j (u3 : Int32) (u4 : Int32) (M : Mem) => ∀ k n : Nat, n ≤ 6 * k + 60000 → k + (j * 177743 + 0) ≤ 600130 → V X G Z M k n (QL X) 82 [(0, .ref (G.2.2.2 3)), (1, .ref (Z.1 0)), (2, .ref (Z.1 400)), (3, .int u3), (4, .int u4)] []) (fun j kk hkk u3 u4 M hf k n hn hq0 => w_L_law_b82 hC hl hz hZ hzq hZq hk43 hn43   kk (fun k' n' u3 u4 M hB hn' hf' => hkk u3 u4 M hf' k' n' (by omega) (by omega)) (k := k) (n := n) (B82 := k + 177743) (by omega) u3 u4 M (by omega) (by omega) (by omega) hf) 3 _ _ _ hf _ _ (by omega) (by omega)
set_option maxRecDepth 20000 in
set_option maxHeartbeats 1000000 in
theorem w_L_law_b77 {X : XX} {G : GG} {Z : ZZ} {r : Unit} {M' : Mem}  {k n : Nat} (hC : Cx X G RL cL_law (some .boolean) 14 600130 7301080 9) (hl : LawOk X G) (hz : ZOk G Z) (hZ : ZM Z) (hzq : ZOk G (swZ Z)) (hZq : ZM (swZ Z)) (hk43 : ZK G Z) (hn43 : 43 ∉ Z.2.2)     (M : Mem) (hb : k + 533229 ≤ 600130) (hn : n ≤ 6 * k + 60000) (hf : f_L_law_b77 (scG G) (lnG G)  M = some (r, M')) : V X G Z M k n (QL X) 77 [(0, .ref (G.2.2.2 3)), (1, .ref (Z.1 0)), (2, .ref (Z.1 400))] [] := by
  unfold f_L_law_b77 at hf
  refine r_iconst (v := 0) hC dL_law_77 rfl ?_
  exact w_L_law_b78 hC hl hz hZ hzq hZq hk43 hn43   0 _ (by omega) (by omega) hf
set_option maxRecDepth 1000000 in
set_option maxHeartbeats 1000000 in
theorem w_L_law16 {X : XX} {G : GG} {Z : ZZ} {r : Unit} {M' : Mem} {k n : Nat} (hC : Cx X G RL cL_law (some .boolean) 14 600130 7301080 9) (hl : LawOk X G) (hz : ZOk G Z) (hZ : ZM Z) (hzq : ZOk G (swZ Z)) (hZq : ZM (swZ Z)) (hk43 : ZK G Z) (hn43 : 43 ∉ Z.2.2) (M : Mem) (hb : k + 537794 ≤ 600130) (hn : n ≤ 6 * k + 60000) (hf : f_L_law16 (scG G) (lnG G) M = some (r, M')) : V X G Z M k n (QL X) 16 [(0, .ref (G.2.2.2 3)), (1, .ref (Z.1 0)), (2, .ref (Z.1 400))] [] := by
  unfold f_L_law16 at hf
  refine r_aload_n hC dL_law_16 1 rfl ?_
  refine r_callVI [] (fun r M1 h => c_X5_errorPosition (cx_st hC) hz hZ  _ r M1 h) hf cs_L_108 hC (z_1 hZ 0 (by decide) rfl) (q0 := (RX5, TX5, 7)) rfl rfl [] rfl rfl rfl (by decide) (by decide) (Nat.le_of_ble_eq_true rfl) (by omega) (by omega) dL_law_17 (fun x1 M2 hf => ?_)
  refine r_if_ne 77 hC dL_law_20 (by decide) (fun h => ?_) (fun h => ?_)
  · have hf := if_F hf h
    exact w_L_law_b77 hC hl hz hZ hzq hZq hk43 hn43    _ (by omega) (by omega) hf
  · have hf := if_T hf h
    refine r_aload_n hC dL_law_23 1 rfl ?_
    refine r_bipush (v := 6) hC dL_law_24 rfl ?_
    refine r_wcall [] (fun r M1 h => c_L_tryAbout (cx_st hC) hz hZ 6 _ r M1 h) hf cs_L_115 hC rfl rfl (by decide) (by decide) (Nat.le_of_ble_eq_true rfl) (by omega) (by omega) dL_law_26 (fun x3 M4 hf => ?_)
    refine r_iconst (v := 1) hC dL_law_29 rfl ?_
    refine r_icmp_ne 77 hC dL_law_30 (by decide) (fun h => ?_) (fun h => ?_)
    · have hf := if_F hf h
      exact w_L_law_b77 hC hl hz hZ hzq hZq hk43 hn43    _ (by omega) (by omega) hf
    · have hf := if_T hf h
      refine r_aload_n hC dL_law_33 1 rfl ?_
      refine r_iconst (v := 0) hC dL_law_34 rfl ?_
      refine r_wcall [] (fun r M1 h => c_L_tryWhole (cx_st hC) hz hZ 0 _ r M1 h) hf cs_L_124 hC rfl rfl (by decide) (by decide) (Nat.le_of_ble_eq_true rfl) (by omega) (by omega) dL_law_35 (fun x5 M6 hf => ?_)
      refine r_if_ne 77 hC dL_law_38 (by decide) (fun h => ?_) (fun h => ?_)
      · have hf := if_F hf h
        exact w_L_law_b77 hC hl hz hZ hzq hZq hk43 hn43    _ (by omega) (by omega) hf
      · have hf := if_T hf h
        refine r_aload_n hC dL_law_41 1 rfl ?_
        refine r_wcall [] (fun r M1 h => c_L_tryUndo (cx_st hC) hz hZ  _ r M1 h) hf cs_L_118 hC rfl rfl (by decide) (by decide) (Nat.le_of_ble_eq_true rfl) (by omega) (by omega) dL_law_42 (fun x7 M8 hf => ?_)
        refine r_sipush (v := (-1003)) hC dL_law_45 rfl ?_
        refine r_icmp_ne 77 hC dL_law_48 (by decide) (fun h => ?_) (fun h => ?_)
        · have hf := if_F hf h
          exact w_L_law_b77 hC hl hz hZ hzq hZq hk43 hn43    _ (by omega) (by omega) hf
        · have hf := if_T hf h
          refine r_aload_n hC dL_law_51 2 rfl ?_
          refine V_sw ?_
          refine r_ccall [] (fun r M1 h => c_L_refuses (cx_st hC) hzq hZq  _ r M1 h) hf cs_L_232 hC rfl rfl (by decide) (by decide) (Nat.le_of_ble_eq_true rfl) (by omega) (by omega) dL_law_52 (fun x9 M10 hf => ?_)
          refine V_sb ?_
          refine r_if_eq 77 hC dL_law_55 (by decide) (fun h => ?_) (fun h => ?_)
          · have hf := if_T hf h
            exact w_L_law_b77 hC hl hz hZ hzq hZq hk43 hn43    _ (by omega) (by omega) hf
          · have hf := if_F hf h
            refine r_aload_n hC dL_law_58 1 rfl ?_
            refine r_aload_n hC dL_law_59 2 rfl ?_
            refine r_ccall [] (fun r M1 h => c_L_alike (cx_st hC) hz hZ hzq hZq  _ r M1 h) hf cs_L_235 hC rfl rfl (by decide) (by decide) (Nat.le_of_ble_eq_true rfl) (by omega) (by omega) dL_law_60 (fun x11 M12 hf => ?_)
            refine r_if_eq 77 hC dL_law_63 (by decide) (fun h => ?_) (fun h => ?_)
            · have hf := if_T hf h
              exact w_L_law_b77 hC hl hz hZ hzq hZq hk43 hn43    _ (by omega) (by omega) hf
            · have hf := if_F hf h
              refine r_aload_n hC dL_law_66 1 rfl ?_
              refine r_ccall [] (fun r M1 h => c_L_beats (cx_st hC) hz hZ hk43 hn43  _ r M1 h) hf cs_L_183 hC rfl rfl (by decide) (by decide) (Nat.le_of_ble_eq_true rfl) (by omega) (by omega) dL_law_67 (fun x13 M14 hf => ?_)
              refine r_if_eq 77 hC dL_law_70 (by decide) (fun h => ?_) (fun h => ?_)
              · have hf := if_T hf h
                exact w_L_law_b77 hC hl hz hZ hzq hZq hk43 hn43    _ (by omega) (by omega) hf
              · have hf := if_F hf h
                refine r_iconst (v := 1) hC dL_law_73 rfl ?_
                refine r_goto 78 hC dL_law_74 (by decide) ?_
                exact w_L_law_b78 hC hl hz hZ hzq hZq hk43 hn43   1 _ (by omega) (by omega) hf
