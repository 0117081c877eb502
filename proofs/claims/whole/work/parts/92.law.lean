/-! THE CLAIM OUT OF ONE WALK OF THE LAW'S BODY. Your part is whole_start (and what it stands on); all else here is the same for every law, but numbers. -/
def R_law : String := "HandSpansLaw"
def lw_P (b : Addr) (xs : List Int32) (args : Array Value) (s : State) : Prop := args = #[.ref b] ∧ s.IntsAt b xs ∧ xs.length ≤ 2048 ∧ (Jvm.Cond.and given_1 narrow_1).before args s = true
def lw_Q (_ : Array Value) (s : State) (o : Outcome) (t : State) : Prop := o = .returned (some (.int 1)) ∧ Framed s o t [] 601024 7293033
def lw_Z (below : List Frame) (a : Array Value) (s : State) : State → Prop := fun t => ∃ o, t.status = .running ∧ Ended t below o ∧ lw_Q a s o t
/-- the law's own end, with 1 on the stack, nothing written that was there before, its room as the claim has it -/
theorem lw_ret {p : Program} {l : Launch} {e : Env} {s : State} {m : MethodId} {below : List Frame} {meth : Method} {c : Code} {b : Nat} (hx : p.tables.exec = Jvm.exec) (hb : c.code = code) (hr : meth.sig.returnType = ret) (hlocks : meth.locks = false) {pc : Nat} {H : Heap} {ls : Array Slot} (hdg : decode code pc = .ok (.ireturn, 1)) : W p l e room_1 s m #[Value.ref b] below meth c H [] 601024 7293033 (lw_Z below #[Value.ref b] s) (F0 m pc ls [.int 1]) := by
  intro T hT X
  obtain ⟨fs, hret, hrun, hended, hW, hframe⟩ := X.leave (v := some (.int 1)) (hlocks := hlocks) (fun h => by rw [hr] at h; cases h)
  have hmeth' : T.vm.method? m = some meth := X.method'
  refine ⟨T.setFrames fs, ?_, .returned (some (.int 1)), hrun, hended, rfl, ⟨_, rfl⟩, hW, hframe⟩
  jvm_step X.here [X.here.top, hx, hb, hdg, hmeth', hr, ret, narrow_b1]
  (try refine ⟨rfl, ?_⟩); (try refine ⟨rfl, ?_⟩)
  first | (intro acts; rw [hret _ acts rfl rfl rfl]) | rw [hret _ _ rfl rfl rfl]
  exact Steps.refl _
/-- what holds at the law's entry: the machine, the code, the tables' words (any of lw_tbl by 'hts w (by decide +kernel)'), the script of L ints xs at the cell b, what the Statement gives of the start (any of its parts by flat_of_before) -/
def lw_At (p : Program) (s : State) (m : MethodId) (meth : Method) (c : Code) (b L : Nat) (xs : Nat → Int32) : Prop :=
  p.tables.exec = Jvm.exec ∧ c.code = code ∧ meth.sig.returnType = ret ∧ c.maxLocals = 7 ∧ s.vm.findClass R_law = some m.cls ∧ (∀ w ∈ lw_tbl, w.before #[Value.ref b] s = true) ∧ va_X b L xs s s.heap ∧ b < s.heap.size ∧ meth.locks = false ∧ (Jvm.Cond.and given_1 narrow_1).before #[Value.ref b] s = true
def LawOk (X : XX) (G : GG) (b L : Nat) (sc : Nat → Int32) : Prop := va_X b L sc (xs X) (xs X).heap ∧ b < (xs X).heap.size ∧ ¬ G.2.2.1 b ∧ xa X = #[Value.ref b] ∧ xR X = room_1 ∧ ∀ q : Nat, G.2.2.1 q → (xs X).heap.size ≤ q
def QL (X : XX) : State → Prop := lw_Z (xb X) (xa X) (xs X)
theorem r_sld {X : XX} {G : GG} {Z : ZZ} {M : Mem} {k n : Nat} {Q : State → Prop} {pc : Nat} {L0 : List (Nat × Value)} {rest : List Value} {own : String} {cc : ByteArray} {ret : Option FieldType} {d mc ms nL b L : Nat} {sc : Nat → Int32} {i : Int32} (hC : Cx X G own cc ret d mc ms nL) (hl : LawOk X G b L sc) (hin : vp_in i L) (hdg : decode cc pc = .ok (.iaload, 1)) (kk : V X G Z M k n Q (pc + 1) L0 (.int (sc i.toNatClampNeg) :: rest)) : V X G Z M k n Q pc L0 (.int i :: .ref b :: rest) := by
  obtain ⟨⟨hx, hb, hr, hml, hn⟩, hown, htw, hlk, hK, hA, hsg, hst, hR⟩ := hC
  intro H locs ls hP hS hl'
  exact va_sld hx hb hl.1 hl.2.1 hl.2.2.1 hS hin hdg (kk H locs ls hP hS hl')
theorem r_slen {X : XX} {G : GG} {Z : ZZ} {M : Mem} {k n : Nat} {Q : State → Prop} {pc : Nat} {L0 : List (Nat × Value)} {rest : List Value} {own : String} {cc : ByteArray} {ret : Option FieldType} {d mc ms nL b L : Nat} {sc : Nat → Int32} (hC : Cx X G own cc ret d mc ms nL) (hl : LawOk X G b L sc) (hdg : decode cc pc = .ok (.arraylength, 1)) (kk : V X G Z M k n Q (pc + 1) L0 (.int (Int32.ofNat L) :: rest)) : V X G Z M k n Q pc L0 (.ref b :: rest) := by
  obtain ⟨⟨hx, hb, hr, hml, hn⟩, hown, htw, hlk, hK, hA, hsg, hst, hR⟩ := hC
  intro H locs ls hP hS hl'
  exact va_slen hx hb hl.1 hl.2.1 hl.2.2.1 hS hdg (kk H locs ls hP hS hl')
theorem r_lawret {X : XX} {G : GG} {Z : ZZ} {M : Mem} {k n : Nat} {pc : Nat} {L0 : List (Nat × Value)} {own : String} {d nL b L : Nat} {sc : Nat → Int32} (hC : Cx X G own cL_law (some .boolean) d 601024 7293033 nL) (hl : LawOk X G b L sc) (hk : k ≤ 601024) (hn : n ≤ 7293033) (hdg : decode cL_law pc = .ok (.ireturn, 1)) : V X G Z M k n (QL X) pc L0 [.int 1] := by
  obtain ⟨p, l, e, R, s, m, args, below, meth, c, nL'⟩ := X
  obtain ⟨⟨hx, hb, hr, hml, hn'⟩, hown, htw, hlk, hK, hA, hsg, hst, hR⟩ := hC
  obtain ⟨-, -, -, h4, h5, h6⟩ := hl
  intro H locs ls hP hS hl'
  have h4 : args = #[Value.ref b] := h4
  have h5 : R = room_1 := h5
  subst h4; subst h5
  exact va_forget (fun q hq => h6 _ (hS.2.2 q hq)) (W.widen hk hn (lw_ret hx hb hr hlk hdg))
set_option maxRecDepth 100000 in
set_option maxHeartbeats 4000000 in
theorem w_L_law_b23 {X : XX} {G : GG} {Z : ZZ} {b L : Nat} {sc : Nat → Int32} (hC : Cx X G RL cL_law (some .boolean) 13 601024 7293033 7) (hl : LawOk X G b L sc) (hz : ZOk G Z) (hZ : ZM Z) {M' : Mem} (k n : Nat) (hk : k + 3 ≤ 601024) (hn : n + 18 ≤ 7293033) (kk : Int32 → Mem → Option (Unit × Mem)) (hkk : ∀ (k' n' : Nat), k' ≤ k + 3 → n' ≤ n + 18 → ∀ (u4 : Int32) (M : Mem), kk u4 M = some ((), M') → V X G Z M k' n' (QL X) 23 [(0, .ref b), (1, .ref (Z.1 0)), (2, .ref (Z.1 27)), (3, .ref (Z.1 43)), (4, .int u4)] []) (v4 : Int32) (M : Mem) (hf : f_L_law_b23 sc L kk v4 M = some ((), M')) : V X G Z M k n (QL X) 23 [(0, .ref b), (1, .ref (Z.1 0)), (2, .ref (Z.1 27)), (3, .ref (Z.1 43)), (4, .int v4)] [] := by
  unfold f_L_law_b23 at hf
  refine r_iload hC dL_law_23 4 rfl ?_
  refine r_aload_n hC dL_law_25 0 rfl ?_
  refine r_slen hC hl dL_law_26 ?_
  refine r_iconst (v := 4) hC dL_law_27 rfl ?_
  refine r_isub hC dL_law_28 ?_
  refine r_icmp_gt 1710 hC dL_law_29 (by decide) (fun h => ?_) (fun h => ?_)
  · have hf := if_T hf h
    refine r_iconst (v := 1) hC dL_law_1710 rfl ?_
    exact r_lawret hC hl (by omega) (by omega) dL_law_1711
  · have hf := if_F hf h
    refine r_aload_n hC dL_law_32 0 rfl ?_
    refine r_iload hC dL_law_33 4 rfl ?_
    have hin := if_K hf
    have hf := if_V hf
    refine r_sld hC hl (inb_vp hin) dL_law_35 ?_
    refine r_bipush (v := 31) hC dL_law_36 rfl ?_
    refine r_iand hC dL_law_38 ?_
    by_cases e0 : ((sc (Int32.toNatClampNeg v4)) &&& 31) = 0
    · have hf := if_T hf e0
      refine r_swIn (c := 0) (tgt := 156) hC dL_law_39 e0 (by decide) (by decide) rfl (by decide) ?_
      refine r_aload_n hC dL_law_156 1 rfl ?_
      refine r_aload_n hC dL_law_157 0 rfl ?_
      refine r_iload hC dL_law_158 4 rfl ?_
      refine r_iconst (v := 1) hC dL_law_160 rfl ?_
      refine r_iadd hC dL_law_161 ?_
      have hin := if_K hf
      have hf := if_V hf
      refine r_sld hC hl (inb_vp hin) dL_law_162 ?_
      refine r_aload_n hC dL_law_163 3 rfl ?_
      refine r_wcall [] (fun r M1 h => c_L_append (cx_st hC) hz hZ (sc (Int32.toNatClampNeg (v4 + 1))) _ r M1 h) hf cs_L_93 hC rfl rfl (by decide) (by decide) (Nat.le_of_ble_eq_true rfl) (by omega) (by omega) dL_law_164 (fun x1 M2 hf => ?_)
      refine r_istore (L' := [(5, .int x1), (0, .ref b), (1, .ref (Z.1 0)), (2, .ref (Z.1 27)), (3, .ref (Z.1 43)), (4, .int v4)]) hC dL_law_167 (by decide) rfl ?_
      refine r_aload_n hC dL_law_169 3 rfl ?_
      refine r_aload_n hC dL_law_170 1 rfl ?_
      refine r_iload hC dL_law_171 5 rfl ?_
      refine r_iconst (v := 1) hC dL_law_173 rfl ?_
      refine r_iadd hC dL_law_174 ?_
      have hin := if_K hf
      have hf := if_V hf
      refine r_sld hC hl (inb_vp hin) dL_law_175 ?_
      refine r_callVI [] (fun r M1 h => c_X6_append (cx_st hC) hz hZ (sc (Int32.toNatClampNeg (v4 + 1))) _  r M1 h) hf cs_L_98 hC (z_1 hZ 27 (by decide) rfl) (q0 := (RX6, TX6, 19)) rfl rfl [.int (sc (Int32.toNatClampNeg (v4 + 1)))] rfl rfl rfl (by decide) (by decide) (Nat.le_of_ble_eq_true rfl) (by omega) (by omega) dL_law_176 (fun x3 M4 hf => ?_)
      refine r_istore (L' := [(6, .int x3), (5, .int x1), (0, .ref b), (1, .ref (Z.1 0)), (2, .ref (Z.1 27)), (3, .ref (Z.1 43)), (4, .int v4)]) hC dL_law_179 (by decide) rfl ?_
      refine r_aload_n hC dL_law_181 4 rfl ?_
      refine r_callVI [] (fun r M1 h => c_X6_thrown (cx_st hC) hz hZ  _  r M1 h) hf cs_L_99 hC (z_1 hZ 27 (by decide) rfl) (q0 := (RX6, TX6, 19)) rfl rfl [] rfl rfl rfl (by decide) (by decide) (Nat.le_of_ble_eq_true rfl) (by omega) (by omega) dL_law_182 (fun x5 M6 hf => ?_)
      refine r_iload hC dL_law_185 1 rfl ?_
      refine r_icmp_eq 192 hC dL_law_187 (by decide) (fun h => ?_) (fun h => ?_)
      · have hf := if_T hf h
        refine r_iload hC dL_law_192 1 rfl ?_
        refine r_if_ne 209 hC dL_law_194 (by decide) (fun h => ?_) (fun h => ?_)
        · have hf := if_F hf h
          refine r_goto 1704 hC dL_law_209 (by decide) ?_
          refine r_iinc (v := v4 + 4) (L' := [(4, .int (v4 + 4)), (6, .int x3), (5, .int x1), (0, .ref b), (1, .ref (Z.1 0)), (2, .ref (Z.1 27)), (3, .ref (Z.1 43))]) hC dL_law_1704 6 rfl rfl (by decide) rfl ?_
          refine r_goto 23 hC dL_law_1707 (by decide) ?_
          refine r_L [3, 4, 5, 6, 0] rfl ?_
          exact hkk _ _ (by omega) (by omega) _ _ hf
        · have hf := if_T hf h
          refine r_aload_n hC dL_law_197 5 rfl ?_
          refine r_iconst (v := 0) hC dL_law_198 rfl ?_
          refine r_lald hC (z_1 hZ 43 (by decide) rfl) (inb_vp (by decide)) dL_law_199 ?_
          refine r_iload hC dL_law_200 0 rfl ?_
          refine r_i2l hC dL_law_202 ?_
          refine r_lcmp hC dL_law_203 ?_
          refine r_if_eq 209 hC dL_law_204 (by decide) (fun h => ?_) (fun h => ?_)
          · have hf := if_T hf h
            refine r_goto 1704 hC dL_law_209 (by decide) ?_
            refine r_iinc (v := v4 + 4) (L' := [(4, .int (v4 + 4)), (6, .int x3), (5, .int x1), (0, .ref b), (1, .ref (Z.1 0)), (2, .ref (Z.1 27)), (3, .ref (Z.1 43))]) hC dL_law_1704 6 rfl rfl (by decide) rfl ?_
            refine r_goto 23 hC dL_law_1707 (by decide) ?_
            refine r_L [3, 4, 5, 6, 0] rfl ?_
            exact hkk _ _ (by omega) (by omega) _ _ hf
          · have hf := if_F hf h
            refine r_iconst (v := 0) hC dL_law_207 rfl ?_
            cases hf
      · have hf := if_F hf h
        refine r_iconst (v := 0) hC dL_law_190 rfl ?_
        cases hf
    have hf := if_F hf e0
    by_cases e1 : ((sc (Int32.toNatClampNeg v4)) &&& 31) = 1
    · have hf := if_T hf e1
      refine r_swIn (c := 1) (tgt := 212) hC dL_law_39 e1 (by decide) (by decide) rfl (by decide) ?_
      refine r_aload_n hC dL_law_212 1 rfl ?_
      refine r_callVI [] (fun r M1 h => c_X5_clearText (cx_st hC) hz hZ  _  r M1 h) hf cs_L_102 hC (z_1 hZ 0 (by decide) rfl) (q0 := (RX5, TX5, 7)) rfl rfl [] rfl rfl rfl (by decide) (by decide) (Nat.le_of_ble_eq_true rfl) (by omega) (by omega) dL_law_213 (fun x7 M8 hf => ?_)
      refine r_aload_n hC dL_law_216 2 rfl ?_
      refine r_callVI [.int x7] (fun r M1 h => c_X6_clearText (cx_st hC) hz hZ  _  r M1 h) hf cs_L_105 hC (z_1 hZ 27 (by decide) rfl) (q0 := (RX6, TX6, 19)) rfl rfl [] rfl rfl rfl (by decide) (by decide) (Nat.le_of_ble_eq_true rfl) (by omega) (by omega) dL_law_217 (fun x9 M10 hf => ?_)
      refine r_icmp_eq 1704 hC dL_law_220 (by decide) (fun h => ?_) (fun h => ?_)
      · have hf := if_T hf h
        refine r_iinc (v := v4 + 4) (L' := [(4, .int (v4 + 4)), (0, .ref b), (1, .ref (Z.1 0)), (2, .ref (Z.1 27)), (3, .ref (Z.1 43))]) hC dL_law_1704 4 rfl rfl (by decide) rfl ?_
        refine r_goto 23 hC dL_law_1707 (by decide) ?_
        refine r_L [1, 2, 3, 4, 0] rfl ?_
        exact hkk _ _ (by omega) (by omega) _ _ hf
      · have hf := if_F hf h
        refine r_iconst (v := 0) hC dL_law_223 rfl ?_
        cases hf
    have hf := if_F hf e1
    by_cases e2 : ((sc (Int32.toNatClampNeg v4)) &&& 31) = 2
    · have hf := if_T hf e2
      refine r_swIn (c := 2) (tgt := 225) hC dL_law_39 e2 (by decide) (by decide) rfl (by decide) ?_
      refine r_aload_n hC dL_law_225 1 rfl ?_
      refine r_callVI [] (fun r M1 h => c_X5_errorPosition (cx_st hC) hz hZ  _  r M1 h) hf cs_L_106 hC (z_1 hZ 0 (by decide) rfl) (q0 := (RX5, TX5, 7)) rfl rfl [] rfl rfl rfl (by decide) (by decide) (Nat.le_of_ble_eq_true rfl) (by omega) (by omega) dL_law_226 (fun x11 M12 hf => ?_)
      refine r_aload_n hC dL_law_229 2 rfl ?_
      refine r_callVI [.int x11] (fun r M1 h => c_X6_errorPosition (cx_st hC) hz hZ  _  r M1 h) hf cs_L_109 hC (z_1 hZ 27 (by decide) rfl) (q0 := (RX6, TX6, 19)) rfl rfl [] rfl rfl rfl (by decide) (by decide) (Nat.le_of_ble_eq_true rfl) (by omega) (by omega) dL_law_230 (fun x13 M14 hf => ?_)
      refine r_icmp_eq 1704 hC dL_law_233 (by decide) (fun h => ?_) (fun h => ?_)
      · have hf := if_T hf h
        refine r_iinc (v := v4 + 4) (L' := [(4, .int (v4 + 4)), (0, .ref b), (1, .ref (Z.1 0)), (2, .ref (Z.1 27)), (3, .ref (Z.1 43))]) hC dL_law_1704 4 rfl rfl (by decide) rfl ?_
        refine r_goto 23 hC dL_law_1707 (by decide) ?_
        refine r_L [1, 2, 3, 4, 0] rfl ?_
        exact hkk _ _ (by omega) (by omega) _ _ hf
      · have hf := if_F hf h
        refine r_iconst (v := 0) hC dL_law_236 rfl ?_
        cases hf
    have hf := if_F hf e2
    by_cases e3 : ((sc (Int32.toNatClampNeg v4)) &&& 31) = 3
    · have hf := if_T hf e3
      refine r_swIn (c := 3) (tgt := 238) hC dL_law_39 e3 (by decide) (by decide) rfl (by decide) ?_
      refine r_aload_n hC dL_law_238 1 rfl ?_
      refine r_aload_n hC dL_law_239 3 rfl ?_
      refine r_wcall [] (fun r M1 h => c_L_load (cx_st hC) hz hZ  _ r M1 h) hf cs_L_110 hC rfl rfl (by decide) (by decide) (Nat.le_of_ble_eq_true rfl) (by omega) (by omega) dL_law_240 (fun x15 M16 hf => ?_)
      refine r_istore (L' := [(5, .int x15), (0, .ref b), (1, .ref (Z.1 0)), (2, .ref (Z.1 27)), (3, .ref (Z.1 43)), (4, .int v4)]) hC dL_law_243 (by decide) rfl ?_
      refine r_aload_n hC dL_law_245 3 rfl ?_
      refine r_callVI [] (fun r M1 h => c_X6_load (cx_st hC) hz hZ  _  r M1 h) hf cs_L_113 hC (z_1 hZ 27 (by decide) rfl) (q0 := (RX6, TX6, 19)) rfl rfl [] rfl rfl rfl (by decide) (by decide) (Nat.le_of_ble_eq_true rfl) (by omega) (by omega) dL_law_246 (fun x17 M18 hf => ?_)
      refine r_istore (L' := [(6, .int x17), (5, .int x15), (0, .ref b), (1, .ref (Z.1 0)), (2, .ref (Z.1 27)), (3, .ref (Z.1 43)), (4, .int v4)]) hC dL_law_249 (by decide) rfl ?_
      refine r_aload_n hC dL_law_251 4 rfl ?_
      refine r_callVI [] (fun r M1 h => c_X6_thrown (cx_st hC) hz hZ  _  r M1 h) hf cs_L_99 hC (z_1 hZ 27 (by decide) rfl) (q0 := (RX6, TX6, 19)) rfl rfl [] rfl rfl rfl (by decide) (by decide) (Nat.le_of_ble_eq_true rfl) (by omega) (by omega) dL_law_252 (fun x19 M20 hf => ?_)
      refine r_iload hC dL_law_255 1 rfl ?_
      refine r_icmp_eq 262 hC dL_law_257 (by decide) (fun h => ?_) (fun h => ?_)
      · have hf := if_T hf h
        refine r_iload hC dL_law_262 1 rfl ?_
        refine r_if_ne 279 hC dL_law_264 (by decide) (fun h => ?_) (fun h => ?_)
        · have hf := if_F hf h
          refine r_goto 1704 hC dL_law_279 (by decide) ?_
          refine r_iinc (v := v4 + 4) (L' := [(4, .int (v4 + 4)), (6, .int x17), (5, .int x15), (0, .ref b), (1, .ref (Z.1 0)), (2, .ref (Z.1 27)), (3, .ref (Z.1 43))]) hC dL_law_1704 6 rfl rfl (by decide) rfl ?_
          refine r_goto 23 hC dL_law_1707 (by decide) ?_
          refine r_L [3, 4, 5, 6, 0] rfl ?_
          exact hkk _ _ (by omega) (by omega) _ _ hf
        · have hf := if_T hf h
          refine r_aload_n hC dL_law_267 5 rfl ?_
          refine r_iconst (v := 0) hC dL_law_268 rfl ?_
          refine r_lald hC (z_1 hZ 43 (by decide) rfl) (inb_vp (by decide)) dL_law_269 ?_
          refine r_iload hC dL_law_270 0 rfl ?_
          refine r_i2l hC dL_law_272 ?_
          refine r_lcmp hC dL_law_273 ?_
          refine r_if_eq 279 hC dL_law_274 (by decide) (fun h => ?_) (fun h => ?_)
          · have hf := if_T hf h
            refine r_goto 1704 hC dL_law_279 (by decide) ?_
            refine r_iinc (v := v4 + 4) (L' := [(4, .int (v4 + 4)), (6, .int x17), (5, .int x15), (0, .ref b), (1, .ref (Z.1 0)), (2, .ref (Z.1 27)), (3, .ref (Z.1 43))]) hC dL_law_1704 6 rfl rfl (by decide) rfl ?_
            refine r_goto 23 hC dL_law_1707 (by decide) ?_
            refine r_L [3, 4, 5, 6, 0] rfl ?_
            exact hkk _ _ (by omega) (by omega) _ _ hf
          · have hf := if_F hf h
            refine r_iconst (v := 0) hC dL_law_277 rfl ?_
            cases hf
      · have hf := if_F hf h
        refine r_iconst (v := 0) hC dL_law_260 rfl ?_
        cases hf
    have hf := if_F hf e3
    by_cases e4 : ((sc (Int32.toNatClampNeg v4)) &&& 31) = 4
    · have hf := if_T hf e4
      refine r_swIn (c := 4) (tgt := 282) hC dL_law_39 e4 (by decide) (by decide) rfl (by decide) ?_
      refine r_aload_n hC dL_law_282 1 rfl ?_
      refine r_aload_n hC dL_law_283 0 rfl ?_
      refine r_iload hC dL_law_284 4 rfl ?_
      refine r_iconst (v := 1) hC dL_law_286 rfl ?_
      refine r_iadd hC dL_law_287 ?_
      have hin := if_K hf
      have hf := if_V hf
      refine r_sld hC hl (inb_vp hin) dL_law_288 ?_
      refine r_aload_n hC dL_law_289 3 rfl ?_
      refine r_wcall [] (fun r M1 h => c_L_about (cx_st hC) hz hZ (sc (Int32.toNatClampNeg (v4 + 1))) _ r M1 h) hf cs_L_114 hC rfl rfl (by decide) (by decide) (Nat.le_of_ble_eq_true rfl) (by omega) (by omega) dL_law_290 (fun x21 M22 hf => ?_)
      refine r_istore (L' := [(5, .int x21), (0, .ref b), (1, .ref (Z.1 0)), (2, .ref (Z.1 27)), (3, .ref (Z.1 43)), (4, .int v4)]) hC dL_law_293 (by decide) rfl ?_
      refine r_aload_n hC dL_law_295 3 rfl ?_
      refine r_aload_n hC dL_law_296 1 rfl ?_
      refine r_iload hC dL_law_297 5 rfl ?_
      refine r_iconst (v := 1) hC dL_law_299 rfl ?_
      refine r_iadd hC dL_law_300 ?_
      have hin := if_K hf
      have hf := if_V hf
      refine r_sld hC hl (inb_vp hin) dL_law_301 ?_
      refine r_callVI [] (fun r M1 h => c_X6_about (cx_st hC) hz hZ (sc (Int32.toNatClampNeg (v4 + 1))) _  r M1 h) hf cs_L_116 hC (z_1 hZ 27 (by decide) rfl) (q0 := (RX6, TX6, 19)) rfl rfl [.int (sc (Int32.toNatClampNeg (v4 + 1)))] rfl rfl rfl (by decide) (by decide) (Nat.le_of_ble_eq_true rfl) (by omega) (by omega) dL_law_302 (fun x23 M24 hf => ?_)
      refine r_istore (L' := [(6, .int x23), (5, .int x21), (0, .ref b), (1, .ref (Z.1 0)), (2, .ref (Z.1 27)), (3, .ref (Z.1 43)), (4, .int v4)]) hC dL_law_305 (by decide) rfl ?_
      refine r_aload_n hC dL_law_307 4 rfl ?_
      refine r_callVI [] (fun r M1 h => c_X6_thrown (cx_st hC) hz hZ  _  r M1 h) hf cs_L_99 hC (z_1 hZ 27 (by decide) rfl) (q0 := (RX6, TX6, 19)) rfl rfl [] rfl rfl rfl (by decide) (by decide) (Nat.le_of_ble_eq_true rfl) (by omega) (by omega) dL_law_308 (fun x25 M26 hf => ?_)
      refine r_iload hC dL_law_311 1 rfl ?_
      refine r_icmp_eq 318 hC dL_law_313 (by decide) (fun h => ?_) (fun h => ?_)
      · have hf := if_T hf h
        refine r_iload hC dL_law_318 1 rfl ?_
        refine r_if_ne 335 hC dL_law_320 (by decide) (fun h => ?_) (fun h => ?_)
        · have hf := if_F hf h
          refine r_goto 1704 hC dL_law_335 (by decide) ?_
          refine r_iinc (v := v4 + 4) (L' := [(4, .int (v4 + 4)), (6, .int x23), (5, .int x21), (0, .ref b), (1, .ref (Z.1 0)), (2, .ref (Z.1 27)), (3, .ref (Z.1 43))]) hC dL_law_1704 6 rfl rfl (by decide) rfl ?_
          refine r_goto 23 hC dL_law_1707 (by decide) ?_
          refine r_L [3, 4, 5, 6, 0] rfl ?_
          exact hkk _ _ (by omega) (by omega) _ _ hf
        · have hf := if_T hf h
          refine r_aload_n hC dL_law_323 5 rfl ?_
          refine r_iconst (v := 0) hC dL_law_324 rfl ?_
          refine r_lald hC (z_1 hZ 43 (by decide) rfl) (inb_vp (by decide)) dL_law_325 ?_
          refine r_iload hC dL_law_326 0 rfl ?_
          refine r_i2l hC dL_law_328 ?_
          refine r_lcmp hC dL_law_329 ?_
          refine r_if_eq 335 hC dL_law_330 (by decide) (fun h => ?_) (fun h => ?_)
          · have hf := if_T hf h
            refine r_goto 1704 hC dL_law_335 (by decide) ?_
            refine r_iinc (v := v4 + 4) (L' := [(4, .int (v4 + 4)), (6, .int x23), (5, .int x21), (0, .ref b), (1, .ref (Z.1 0)), (2, .ref (Z.1 27)), (3, .ref (Z.1 43))]) hC dL_law_1704 6 rfl rfl (by decide) rfl ?_
            refine r_goto 23 hC dL_law_1707 (by decide) ?_
            refine r_L [3, 4, 5, 6, 0] rfl ?_
            exact hkk _ _ (by omega) (by omega) _ _ hf
          · have hf := if_F hf h
            refine r_iconst (v := 0) hC dL_law_333 rfl ?_
            cases hf
      · have hf := if_F hf h
        refine r_iconst (v := 0) hC dL_law_316 rfl ?_
        cases hf
    have hf := if_F hf e4
    by_cases e5 : ((sc (Int32.toNatClampNeg v4)) &&& 31) = 5
    · have hf := if_T hf e5
      refine r_swIn (c := 5) (tgt := 338) hC dL_law_39 e5 (by decide) (by decide) rfl (by decide) ?_
      refine r_aload_n hC dL_law_338 1 rfl ?_
      refine r_aload_n hC dL_law_339 0 rfl ?_
      refine r_iload hC dL_law_340 4 rfl ?_
      refine r_iconst (v := 1) hC dL_law_342 rfl ?_
      refine r_iadd hC dL_law_343 ?_
      have hin := if_K hf
      have hf := if_V hf
      refine r_sld hC hl (inb_vp hin) dL_law_344 ?_
      refine r_aload_n hC dL_law_345 0 rfl ?_
      refine r_iload hC dL_law_346 4 rfl ?_
      refine r_iconst (v := 2) hC dL_law_348 rfl ?_
      refine r_iadd hC dL_law_349 ?_
      have hin := if_K hf
      have hf := if_V hf
      refine r_sld hC hl (inb_vp hin) dL_law_350 ?_
      refine r_aload_n hC dL_law_351 0 rfl ?_
      refine r_iload hC dL_law_352 4 rfl ?_
      refine r_iconst (v := 3) hC dL_law_354 rfl ?_
      refine r_iadd hC dL_law_355 ?_
      have hin := if_K hf
      have hf := if_V hf
      refine r_sld hC hl (inb_vp hin) dL_law_356 ?_
      refine r_if_eq 364 hC dL_law_357 (by decide) (fun h => ?_) (fun h => ?_)
      · have hf := if_T hf h
        refine r_iconst (v := 0) hC dL_law_364 rfl ?_
        refine r_aload_n hC dL_law_365 3 rfl ?_
        refine r_wcall [] (fun r M1 h => c_L_cell (cx_st hC) hz hZ (sc (Int32.toNatClampNeg (v4 + 1))) (sc (Int32.toNatClampNeg (v4 + 2))) 0 _ r M1 h) hf cs_L_117 hC rfl rfl (by decide) (by decide) (Nat.le_of_ble_eq_true rfl) (by omega) (by omega) dL_law_366 (fun x27 M28 hf => ?_)
        refine r_istore (L' := [(5, .int x27), (0, .ref b), (1, .ref (Z.1 0)), (2, .ref (Z.1 27)), (3, .ref (Z.1 43)), (4, .int v4)]) hC dL_law_369 (by decide) rfl ?_
        refine r_aload_n hC dL_law_371 3 rfl ?_
        refine r_aload_n hC dL_law_372 1 rfl ?_
        refine r_iload hC dL_law_373 5 rfl ?_
        refine r_iconst (v := 1) hC dL_law_375 rfl ?_
        refine r_iadd hC dL_law_376 ?_
        have hin := if_K hf
        have hf := if_V hf
        refine r_sld hC hl (inb_vp hin) dL_law_377 ?_
        refine r_aload_n hC dL_law_378 1 rfl ?_
        refine r_iload hC dL_law_379 5 rfl ?_
        refine r_iconst (v := 2) hC dL_law_381 rfl ?_
        refine r_iadd hC dL_law_382 ?_
        have hin := if_K hf
        have hf := if_V hf
        refine r_sld hC hl (inb_vp hin) dL_law_383 ?_
        refine r_aload_n hC dL_law_384 1 rfl ?_
        refine r_iload hC dL_law_385 5 rfl ?_
        refine r_iconst (v := 3) hC dL_law_387 rfl ?_
        refine r_iadd hC dL_law_388 ?_
        have hin := if_K hf
        have hf := if_V hf
        refine r_sld hC hl (inb_vp hin) dL_law_389 ?_
        refine r_if_eq 397 hC dL_law_390 (by decide) (fun h => ?_) (fun h => ?_)
        · have hf := if_T hf h
          refine r_iconst (v := 0) hC dL_law_397 rfl ?_
          refine r_callVI [] (fun r M1 h => c_X6_cell (cx_st hC) hz hZ (sc (Int32.toNatClampNeg (v4 + 1))) (sc (Int32.toNatClampNeg (v4 + 2))) 0 _  r M1 h) hf cs_L_120 hC (z_1 hZ 27 (by decide) rfl) (q0 := (RX6, TX6, 19)) rfl rfl [.int (sc (Int32.toNatClampNeg (v4 + 1))), .int (sc (Int32.toNatClampNeg (v4 + 2))), .int 0] rfl rfl rfl (by decide) (by decide) (Nat.le_of_ble_eq_true rfl) (by omega) (by omega) dL_law_398 (fun x29 M30 hf => ?_)
          refine r_istore (L' := [(6, .int x29), (5, .int x27), (0, .ref b), (1, .ref (Z.1 0)), (2, .ref (Z.1 27)), (3, .ref (Z.1 43)), (4, .int v4)]) hC dL_law_401 (by decide) rfl ?_
          refine r_aload_n hC dL_law_403 4 rfl ?_
          refine r_callVI [] (fun r M1 h => c_X6_thrown (cx_st hC) hz hZ  _  r M1 h) hf cs_L_99 hC (z_1 hZ 27 (by decide) rfl) (q0 := (RX6, TX6, 19)) rfl rfl [] rfl rfl rfl (by decide) (by decide) (Nat.le_of_ble_eq_true rfl) (by omega) (by omega) dL_law_404 (fun x31 M32 hf => ?_)
          refine r_iload hC dL_law_407 1 rfl ?_
          refine r_icmp_eq 414 hC dL_law_409 (by decide) (fun h => ?_) (fun h => ?_)
          · have hf := if_T hf h
            refine r_iload hC dL_law_414 1 rfl ?_
            refine r_if_ne 431 hC dL_law_416 (by decide) (fun h => ?_) (fun h => ?_)
            · have hf := if_F hf h
              refine r_goto 1704 hC dL_law_431 (by decide) ?_
              refine r_iinc (v := v4 + 4) (L' := [(4, .int (v4 + 4)), (6, .int x29), (5, .int x27), (0, .ref b), (1, .ref (Z.1 0)), (2, .ref (Z.1 27)), (3, .ref (Z.1 43))]) hC dL_law_1704 6 rfl rfl (by decide) rfl ?_
              refine r_goto 23 hC dL_law_1707 (by decide) ?_
              refine r_L [3, 4, 5, 6, 0] rfl ?_
              exact hkk _ _ (by omega) (by omega) _ _ hf
            · have hf := if_T hf h
              refine r_aload_n hC dL_law_419 5 rfl ?_
              refine r_iconst (v := 0) hC dL_law_420 rfl ?_
              refine r_lald hC (z_1 hZ 43 (by decide) rfl) (inb_vp (by decide)) dL_law_421 ?_
              refine r_iload hC dL_law_422 0 rfl ?_
              refine r_i2l hC dL_law_424 ?_
              refine r_lcmp hC dL_law_425 ?_
              refine r_if_eq 431 hC dL_law_426 (by decide) (fun h => ?_) (fun h => ?_)
              · have hf := if_T hf h
                refine r_goto 1704 hC dL_law_431 (by decide) ?_
                refine r_iinc (v := v4 + 4) (L' := [(4, .int (v4 + 4)), (6, .int x29), (5, .int x27), (0, .ref b), (1, .ref (Z.1 0)), (2, .ref (Z.1 27)), (3, .ref (Z.1 43))]) hC dL_law_1704 6 rfl rfl (by decide) rfl ?_
                refine r_goto 23 hC dL_law_1707 (by decide) ?_
                refine r_L [3, 4, 5, 6, 0] rfl ?_
                exact hkk _ _ (by omega) (by omega) _ _ hf
              · have hf := if_F hf h
                refine r_iconst (v := 0) hC dL_law_429 rfl ?_
                cases hf
          · have hf := if_F hf h
            refine r_iconst (v := 0) hC dL_law_412 rfl ?_
            cases hf
        · have hf := if_F hf h
          refine r_iconst (v := 1) hC dL_law_393 rfl ?_
          refine r_goto 398 hC dL_law_394 (by decide) ?_
          refine r_callVI [] (fun r M1 h => c_X6_cell (cx_st hC) hz hZ (sc (Int32.toNatClampNeg (v4 + 1))) (sc (Int32.toNatClampNeg (v4 + 2))) 1 _  r M1 h) hf cs_L_120 hC (z_1 hZ 27 (by decide) rfl) (q0 := (RX6, TX6, 19)) rfl rfl [.int (sc (Int32.toNatClampNeg (v4 + 1))), .int (sc (Int32.toNatClampNeg (v4 + 2))), .int 1] rfl rfl rfl (by decide) (by decide) (Nat.le_of_ble_eq_true rfl) (by omega) (by omega) dL_law_398 (fun x33 M34 hf => ?_)
          refine r_istore (L' := [(6, .int x33), (5, .int x27), (0, .ref b), (1, .ref (Z.1 0)), (2, .ref (Z.1 27)), (3, .ref (Z.1 43)), (4, .int v4)]) hC dL_law_401 (by decide) rfl ?_
          refine r_aload_n hC dL_law_403 4 rfl ?_
          refine r_callVI [] (fun r M1 h => c_X6_thrown (cx_st hC) hz hZ  _  r M1 h) hf cs_L_99 hC (z_1 hZ 27 (by decide) rfl) (q0 := (RX6, TX6, 19)) rfl rfl [] rfl rfl rfl (by decide) (by decide) (Nat.le_of_ble_eq_true rfl) (by omega) (by omega) dL_law_404 (fun x35 M36 hf => ?_)
          refine r_iload hC dL_law_407 1 rfl ?_
          refine r_icmp_eq 414 hC dL_law_409 (by decide) (fun h => ?_) (fun h => ?_)
          · have hf := if_T hf h
            refine r_iload hC dL_law_414 1 rfl ?_
            refine r_if_ne 431 hC dL_law_416 (by decide) (fun h => ?_) (fun h => ?_)
            · have hf := if_F hf h
              refine r_goto 1704 hC dL_law_431 (by decide) ?_
              refine r_iinc (v := v4 + 4) (L' := [(4, .int (v4 + 4)), (6, .int x33), (5, .int x27), (0, .ref b), (1, .ref (Z.1 0)), (2, .ref (Z.1 27)), (3, .ref (Z.1 43))]) hC dL_law_1704 6 rfl rfl (by decide) rfl ?_
              refine r_goto 23 hC dL_law_1707 (by decide) ?_
              refine r_L [3, 4, 5, 6, 0] rfl ?_
              exact hkk _ _ (by omega) (by omega) _ _ hf
            · have hf := if_T hf h
              refine r_aload_n hC dL_law_419 5 rfl ?_
              refine r_iconst (v := 0) hC dL_law_420 rfl ?_
              refine r_lald hC (z_1 hZ 43 (by decide) rfl) (inb_vp (by decide)) dL_law_421 ?_
              refine r_iload hC dL_law_422 0 rfl ?_
              refine r_i2l hC dL_law_424 ?_
              refine r_lcmp hC dL_law_425 ?_
              refine r_if_eq 431 hC dL_law_426 (by decide) (fun h => ?_) (fun h => ?_)
              · have hf := if_T hf h
                refine r_goto 1704 hC dL_law_431 (by decide) ?_
                refine r_iinc (v := v4 + 4) (L' := [(4, .int (v4 + 4)), (6, .int x33), (5, .int x27), (0, .ref b), (1, .ref (Z.1 0)), (2, .ref (Z.1 27)), (3, .ref (Z.1 43))]) hC dL_law_1704 6 rfl rfl (by decide) rfl ?_
                refine r_goto 23 hC dL_law_1707 (by decide) ?_
                refine r_L [3, 4, 5, 6, 0] rfl ?_
                exact hkk _ _ (by omega) (by omega) _ _ hf
              · have hf := if_F hf h
                refine r_iconst (v := 0) hC dL_law_429 rfl ?_
                cases hf
          · have hf := if_F hf h
            refine r_iconst (v := 0) hC dL_law_412 rfl ?_
            cases hf
      · have hf := if_F hf h
        refine r_iconst (v := 1) hC dL_law_360 rfl ?_
        refine r_goto 365 hC dL_law_361 (by decide) ?_
        refine r_aload_n hC dL_law_365 3 rfl ?_
        refine r_wcall [] (fun r M1 h => c_L_cell (cx_st hC) hz hZ (sc (Int32.toNatClampNeg (v4 + 1))) (sc (Int32.toNatClampNeg (v4 + 2))) 1 _ r M1 h) hf cs_L_117 hC rfl rfl (by decide) (by decide) (Nat.le_of_ble_eq_true rfl) (by omega) (by omega) dL_law_366 (fun x37 M38 hf => ?_)
        refine r_istore (L' := [(5, .int x37), (0, .ref b), (1, .ref (Z.1 0)), (2, .ref (Z.1 27)), (3, .ref (Z.1 43)), (4, .int v4)]) hC dL_law_369 (by decide) rfl ?_
        refine r_aload_n hC dL_law_371 3 rfl ?_
        refine r_aload_n hC dL_law_372 1 rfl ?_
        refine r_iload hC dL_law_373 5 rfl ?_
        refine r_iconst (v := 1) hC dL_law_375 rfl ?_
        refine r_iadd hC dL_law_376 ?_
        have hin := if_K hf
        have hf := if_V hf
        refine r_sld hC hl (inb_vp hin) dL_law_377 ?_
        refine r_aload_n hC dL_law_378 1 rfl ?_
        refine r_iload hC dL_law_379 5 rfl ?_
        refine r_iconst (v := 2) hC dL_law_381 rfl ?_
        refine r_iadd hC dL_law_382 ?_
        have hin := if_K hf
        have hf := if_V hf
        refine r_sld hC hl (inb_vp hin) dL_law_383 ?_
        refine r_aload_n hC dL_law_384 1 rfl ?_
        refine r_iload hC dL_law_385 5 rfl ?_
        refine r_iconst (v := 3) hC dL_law_387 rfl ?_
        refine r_iadd hC dL_law_388 ?_
        have hin := if_K hf
        have hf := if_V hf
        refine r_sld hC hl (inb_vp hin) dL_law_389 ?_
        refine r_if_eq 397 hC dL_law_390 (by decide) (fun h => ?_) (fun h => ?_)
        · have hf := if_T hf h
          refine r_iconst (v := 0) hC dL_law_397 rfl ?_
          refine r_callVI [] (fun r M1 h => c_X6_cell (cx_st hC) hz hZ (sc (Int32.toNatClampNeg (v4 + 1))) (sc (Int32.toNatClampNeg (v4 + 2))) 0 _  r M1 h) hf cs_L_120 hC (z_1 hZ 27 (by decide) rfl) (q0 := (RX6, TX6, 19)) rfl rfl [.int (sc (Int32.toNatClampNeg (v4 + 1))), .int (sc (Int32.toNatClampNeg (v4 + 2))), .int 0] rfl rfl rfl (by decide) (by decide) (Nat.le_of_ble_eq_true rfl) (by omega) (by omega) dL_law_398 (fun x39 M40 hf => ?_)
          refine r_istore (L' := [(6, .int x39), (5, .int x37), (0, .ref b), (1, .ref (Z.1 0)), (2, .ref (Z.1 27)), (3, .ref (Z.1 43)), (4, .int v4)]) hC dL_law_401 (by decide) rfl ?_
          refine r_aload_n hC dL_law_403 4 rfl ?_
          refine r_callVI [] (fun r M1 h => c_X6_thrown (cx_st hC) hz hZ  _  r M1 h) hf cs_L_99 hC (z_1 hZ 27 (by decide) rfl) (q0 := (RX6, TX6, 19)) rfl rfl [] rfl rfl rfl (by decide) (by decide) (Nat.le_of_ble_eq_true rfl) (by omega) (by omega) dL_law_404 (fun x41 M42 hf => ?_)
          refine r_iload hC dL_law_407 1 rfl ?_
          refine r_icmp_eq 414 hC dL_law_409 (by decide) (fun h => ?_) (fun h => ?_)
          · have hf := if_T hf h
            refine r_iload hC dL_law_414 1 rfl ?_
            refine r_if_ne 431 hC dL_law_416 (by decide) (fun h => ?_) (fun h => ?_)
            · have hf := if_F hf h
              refine r_goto 1704 hC dL_law_431 (by decide) ?_
              refine r_iinc (v := v4 + 4) (L' := [(4, .int (v4 + 4)), (6, .int x39), (5, .int x37), (0, .ref b), (1, .ref (Z.1 0)), (2, .ref (Z.1 27)), (3, .ref (Z.1 43))]) hC dL_law_1704 6 rfl rfl (by decide) rfl ?_
              refine r_goto 23 hC dL_law_1707 (by decide) ?_
              refine r_L [3, 4, 5, 6, 0] rfl ?_
              exact hkk _ _ (by omega) (by omega) _ _ hf
            · have hf := if_T hf h
              refine r_aload_n hC dL_law_419 5 rfl ?_
              refine r_iconst (v := 0) hC dL_law_420 rfl ?_
              refine r_lald hC (z_1 hZ 43 (by decide) rfl) (inb_vp (by decide)) dL_law_421 ?_
              refine r_iload hC dL_law_422 0 rfl ?_
              refine r_i2l hC dL_law_424 ?_
              refine r_lcmp hC dL_law_425 ?_
              refine r_if_eq 431 hC dL_law_426 (by decide) (fun h => ?_) (fun h => ?_)
              · have hf := if_T hf h
                refine r_goto 1704 hC dL_law_431 (by decide) ?_
                refine r_iinc (v := v4 + 4) (L' := [(4, .int (v4 + 4)), (6, .int x39), (5, .int x37), (0, .ref b), (1, .ref (Z.1 0)), (2, .ref (Z.1 27)), (3, .ref (Z.1 43))]) hC dL_law_1704 6 rfl rfl (by decide) rfl ?_
                refine r_goto 23 hC dL_law_1707 (by decide) ?_
                refine r_L [3, 4, 5, 6, 0] rfl ?_
                exact hkk _ _ (by omega) (by omega) _ _ hf
              · have hf := if_F hf h
                refine r_iconst (v := 0) hC dL_law_429 rfl ?_
                cases hf
          · have hf := if_F hf h
            refine r_iconst (v := 0) hC dL_law_412 rfl ?_
            cases hf
        · have hf := if_F hf h
          refine r_iconst (v := 1) hC dL_law_393 rfl ?_
          refine r_goto 398 hC dL_law_394 (by decide) ?_
          refine r_callVI [] (fun r M1 h => c_X6_cell (cx_st hC) hz hZ (sc (Int32.toNatClampNeg (v4 + 1))) (sc (Int32.toNatClampNeg (v4 + 2))) 1 _  r M1 h) hf cs_L_120 hC (z_1 hZ 27 (by decide) rfl) (q0 := (RX6, TX6, 19)) rfl rfl [.int (sc (Int32.toNatClampNeg (v4 + 1))), .int (sc (Int32.toNatClampNeg (v4 + 2))), .int 1] rfl rfl rfl (by decide) (by decide) (Nat.le_of_ble_eq_true rfl) (by omega) (by omega) dL_law_398 (fun x43 M44 hf => ?_)
          refine r_istore (L' := [(6, .int x43), (5, .int x37), (0, .ref b), (1, .ref (Z.1 0)), (2, .ref (Z.1 27)), (3, .ref (Z.1 43)), (4, .int v4)]) hC dL_law_401 (by decide) rfl ?_
          refine r_aload_n hC dL_law_403 4 rfl ?_
          refine r_callVI [] (fun r M1 h => c_X6_thrown (cx_st hC) hz hZ  _  r M1 h) hf cs_L_99 hC (z_1 hZ 27 (by decide) rfl) (q0 := (RX6, TX6, 19)) rfl rfl [] rfl rfl rfl (by decide) (by decide) (Nat.le_of_ble_eq_true rfl) (by omega) (by omega) dL_law_404 (fun x45 M46 hf => ?_)
          refine r_iload hC dL_law_407 1 rfl ?_
          refine r_icmp_eq 414 hC dL_law_409 (by decide) (fun h => ?_) (fun h => ?_)
          · have hf := if_T hf h
            refine r_iload hC dL_law_414 1 rfl ?_
            refine r_if_ne 431 hC dL_law_416 (by decide) (fun h => ?_) (fun h => ?_)
            · have hf := if_F hf h
              refine r_goto 1704 hC dL_law_431 (by decide) ?_
              refine r_iinc (v := v4 + 4) (L' := [(4, .int (v4 + 4)), (6, .int x43), (5, .int x37), (0, .ref b), (1, .ref (Z.1 0)), (2, .ref (Z.1 27)), (3, .ref (Z.1 43))]) hC dL_law_1704 6 rfl rfl (by decide) rfl ?_
              refine r_goto 23 hC dL_law_1707 (by decide) ?_
              refine r_L [3, 4, 5, 6, 0] rfl ?_
              exact hkk _ _ (by omega) (by omega) _ _ hf
            · have hf := if_T hf h
              refine r_aload_n hC dL_law_419 5 rfl ?_
              refine r_iconst (v := 0) hC dL_law_420 rfl ?_
              refine r_lald hC (z_1 hZ 43 (by decide) rfl) (inb_vp (by decide)) dL_law_421 ?_
              refine r_iload hC dL_law_422 0 rfl ?_
              refine r_i2l hC dL_law_424 ?_
              refine r_lcmp hC dL_law_425 ?_
              refine r_if_eq 431 hC dL_law_426 (by decide) (fun h => ?_) (fun h => ?_)
              · have hf := if_T hf h
                refine r_goto 1704 hC dL_law_431 (by decide) ?_
                refine r_iinc (v := v4 + 4) (L' := [(4, .int (v4 + 4)), (6, .int x43), (5, .int x37), (0, .ref b), (1, .ref (Z.1 0)), (2, .ref (Z.1 27)), (3, .ref (Z.1 43))]) hC dL_law_1704 6 rfl rfl (by decide) rfl ?_
                refine r_goto 23 hC dL_law_1707 (by decide) ?_
                refine r_L [3, 4, 5, 6, 0] rfl ?_
                exact hkk _ _ (by omega) (by omega) _ _ hf
              · have hf := if_F hf h
                refine r_iconst (v := 0) hC dL_law_429 rfl ?_
                cases hf
          · have hf := if_F hf h
            refine r_iconst (v := 0) hC dL_law_412 rfl ?_
            cases hf
    have hf := if_F hf e5
    by_cases e6 : ((sc (Int32.toNatClampNeg v4)) &&& 31) = 6
    · have hf := if_T hf e6
      refine r_swIn (c := 6) (tgt := 434) hC dL_law_39 e6 (by decide) (by decide) rfl (by decide) ?_
      refine r_aload_n hC dL_law_434 1 rfl ?_
      refine r_aload_n hC dL_law_435 0 rfl ?_
      refine r_iload hC dL_law_436 4 rfl ?_
      refine r_iconst (v := 1) hC dL_law_438 rfl ?_
      refine r_iadd hC dL_law_439 ?_
      have hin := if_K hf
      have hf := if_V hf
      refine r_sld hC hl (inb_vp hin) dL_law_440 ?_
      refine r_aload_n hC dL_law_441 0 rfl ?_
      refine r_iload hC dL_law_442 4 rfl ?_
      refine r_iconst (v := 2) hC dL_law_444 rfl ?_
      refine r_iadd hC dL_law_445 ?_
      have hin := if_K hf
      have hf := if_V hf
      refine r_sld hC hl (inb_vp hin) dL_law_446 ?_
      refine r_aload_n hC dL_law_447 3 rfl ?_
      refine r_wcall [] (fun r M1 h => c_L_set (cx_st hC) hz hZ (sc (Int32.toNatClampNeg (v4 + 1))) (sc (Int32.toNatClampNeg (v4 + 2))) _ r M1 h) hf cs_L_121 hC rfl rfl (by decide) (by decide) (Nat.le_of_ble_eq_true rfl) (by omega) (by omega) dL_law_448 (fun x47 M48 hf => ?_)
      refine r_istore (L' := [(5, .int x47), (0, .ref b), (1, .ref (Z.1 0)), (2, .ref (Z.1 27)), (3, .ref (Z.1 43)), (4, .int v4)]) hC dL_law_451 (by decide) rfl ?_
      refine r_aload_n hC dL_law_453 3 rfl ?_
      refine r_aload_n hC dL_law_454 1 rfl ?_
      refine r_iload hC dL_law_455 5 rfl ?_
      refine r_iconst (v := 1) hC dL_law_457 rfl ?_
      refine r_iadd hC dL_law_458 ?_
      have hin := if_K hf
      have hf := if_V hf
      refine r_sld hC hl (inb_vp hin) dL_law_459 ?_
      refine r_aload_n hC dL_law_460 1 rfl ?_
      refine r_iload hC dL_law_461 5 rfl ?_
      refine r_iconst (v := 2) hC dL_law_463 rfl ?_
      refine r_iadd hC dL_law_464 ?_
      have hin := if_K hf
      have hf := if_V hf
      refine r_sld hC hl (inb_vp hin) dL_law_465 ?_
      refine r_callVI [] (fun r M1 h => c_X6_set (cx_st hC) hz hZ (sc (Int32.toNatClampNeg (v4 + 1))) (sc (Int32.toNatClampNeg (v4 + 2))) _  r M1 h) hf cs_L_124 hC (z_1 hZ 27 (by decide) rfl) (q0 := (RX6, TX6, 19)) rfl rfl [.int (sc (Int32.toNatClampNeg (v4 + 1))), .int (sc (Int32.toNatClampNeg (v4 + 2)))] rfl rfl rfl (by decide) (by decide) (Nat.le_of_ble_eq_true rfl) (by omega) (by omega) dL_law_466 (fun x49 M50 hf => ?_)
      refine r_istore (L' := [(6, .int x49), (5, .int x47), (0, .ref b), (1, .ref (Z.1 0)), (2, .ref (Z.1 27)), (3, .ref (Z.1 43)), (4, .int v4)]) hC dL_law_469 (by decide) rfl ?_
      refine r_aload_n hC dL_law_471 4 rfl ?_
      refine r_callVI [] (fun r M1 h => c_X6_thrown (cx_st hC) hz hZ  _  r M1 h) hf cs_L_99 hC (z_1 hZ 27 (by decide) rfl) (q0 := (RX6, TX6, 19)) rfl rfl [] rfl rfl rfl (by decide) (by decide) (Nat.le_of_ble_eq_true rfl) (by omega) (by omega) dL_law_472 (fun x51 M52 hf => ?_)
      refine r_iload hC dL_law_475 1 rfl ?_
      refine r_icmp_eq 482 hC dL_law_477 (by decide) (fun h => ?_) (fun h => ?_)
      · have hf := if_T hf h
        refine r_iload hC dL_law_482 1 rfl ?_
        refine r_if_ne 499 hC dL_law_484 (by decide) (fun h => ?_) (fun h => ?_)
        · have hf := if_F hf h
          refine r_goto 1704 hC dL_law_499 (by decide) ?_
          refine r_iinc (v := v4 + 4) (L' := [(4, .int (v4 + 4)), (6, .int x49), (5, .int x47), (0, .ref b), (1, .ref (Z.1 0)), (2, .ref (Z.1 27)), (3, .ref (Z.1 43))]) hC dL_law_1704 6 rfl rfl (by decide) rfl ?_
          refine r_goto 23 hC dL_law_1707 (by decide) ?_
          refine r_L [3, 4, 5, 6, 0] rfl ?_
          exact hkk _ _ (by omega) (by omega) _ _ hf
        · have hf := if_T hf h
          refine r_aload_n hC dL_law_487 5 rfl ?_
          refine r_iconst (v := 0) hC dL_law_488 rfl ?_
          refine r_lald hC (z_1 hZ 43 (by decide) rfl) (inb_vp (by decide)) dL_law_489 ?_
          refine r_iload hC dL_law_490 0 rfl ?_
          refine r_i2l hC dL_law_492 ?_
          refine r_lcmp hC dL_law_493 ?_
          refine r_if_eq 499 hC dL_law_494 (by decide) (fun h => ?_) (fun h => ?_)
          · have hf := if_T hf h
            refine r_goto 1704 hC dL_law_499 (by decide) ?_
            refine r_iinc (v := v4 + 4) (L' := [(4, .int (v4 + 4)), (6, .int x49), (5, .int x47), (0, .ref b), (1, .ref (Z.1 0)), (2, .ref (Z.1 27)), (3, .ref (Z.1 43))]) hC dL_law_1704 6 rfl rfl (by decide) rfl ?_
            refine r_goto 23 hC dL_law_1707 (by decide) ?_
            refine r_L [3, 4, 5, 6, 0] rfl ?_
            exact hkk _ _ (by omega) (by omega) _ _ hf
          · have hf := if_F hf h
            refine r_iconst (v := 0) hC dL_law_497 rfl ?_
            cases hf
      · have hf := if_F hf h
        refine r_iconst (v := 0) hC dL_law_480 rfl ?_
        cases hf
    have hf := if_F hf e6
    by_cases e7 : ((sc (Int32.toNatClampNeg v4)) &&& 31) = 7
    · have hf := if_T hf e7
      refine r_swIn (c := 7) (tgt := 502) hC dL_law_39 e7 (by decide) (by decide) rfl (by decide) ?_
      refine r_aload_n hC dL_law_502 1 rfl ?_
      refine r_aload_n hC dL_law_503 0 rfl ?_
      refine r_iload hC dL_law_504 4 rfl ?_
      refine r_iconst (v := 1) hC dL_law_506 rfl ?_
      refine r_iadd hC dL_law_507 ?_
      have hin := if_K hf
      have hf := if_V hf
      refine r_sld hC hl (inb_vp hin) dL_law_508 ?_
      refine r_aload_n hC dL_law_509 0 rfl ?_
      refine r_iload hC dL_law_510 4 rfl ?_
      refine r_iconst (v := 2) hC dL_law_512 rfl ?_
      refine r_iadd hC dL_law_513 ?_
      have hin := if_K hf
      have hf := if_V hf
      refine r_sld hC hl (inb_vp hin) dL_law_514 ?_
      refine r_aload_n hC dL_law_515 0 rfl ?_
      refine r_iload hC dL_law_516 4 rfl ?_
      refine r_iconst (v := 3) hC dL_law_518 rfl ?_
      refine r_iadd hC dL_law_519 ?_
      have hin := if_K hf
      have hf := if_V hf
      refine r_sld hC hl (inb_vp hin) dL_law_520 ?_
      refine r_aload_n hC dL_law_521 3 rfl ?_
      refine r_wcall [] (fun r M1 h => c_L_write (cx_st hC) hz hZ (sc (Int32.toNatClampNeg (v4 + 1))) (sc (Int32.toNatClampNeg (v4 + 2))) (sc (Int32.toNatClampNeg (v4 + 3))) _ r M1 h) hf cs_L_125 hC rfl rfl (by decide) (by decide) (Nat.le_of_ble_eq_true rfl) (by omega) (by omega) dL_law_522 (fun x53 M54 hf => ?_)
      refine r_istore (L' := [(5, .int x53), (0, .ref b), (1, .ref (Z.1 0)), (2, .ref (Z.1 27)), (3, .ref (Z.1 43)), (4, .int v4)]) hC dL_law_525 (by decide) rfl ?_
      refine r_aload_n hC dL_law_527 3 rfl ?_
      refine r_aload_n hC dL_law_528 1 rfl ?_
      refine r_iload hC dL_law_529 5 rfl ?_
      refine r_iconst (v := 1) hC dL_law_531 rfl ?_
      refine r_iadd hC dL_law_532 ?_
      have hin := if_K hf
      have hf := if_V hf
      refine r_sld hC hl (inb_vp hin) dL_law_533 ?_
      refine r_aload_n hC dL_law_534 1 rfl ?_
      refine r_iload hC dL_law_535 5 rfl ?_
      refine r_iconst (v := 2) hC dL_law_537 rfl ?_
      refine r_iadd hC dL_law_538 ?_
      have hin := if_K hf
      have hf := if_V hf
      refine r_sld hC hl (inb_vp hin) dL_law_539 ?_
      refine r_aload_n hC dL_law_540 1 rfl ?_
      refine r_iload hC dL_law_541 5 rfl ?_
      refine r_iconst (v := 3) hC dL_law_543 rfl ?_
      refine r_iadd hC dL_law_544 ?_
      have hin := if_K hf
      have hf := if_V hf
      refine r_sld hC hl (inb_vp hin) dL_law_545 ?_
      refine r_callVI [] (fun r M1 h => c_X6_write (cx_st hC) hz hZ (sc (Int32.toNatClampNeg (v4 + 1))) (sc (Int32.toNatClampNeg (v4 + 2))) (sc (Int32.toNatClampNeg (v4 + 3))) _  r M1 h) hf cs_L_128 hC (z_1 hZ 27 (by decide) rfl) (q0 := (RX6, TX6, 19)) rfl rfl [.int (sc (Int32.toNatClampNeg (v4 + 1))), .int (sc (Int32.toNatClampNeg (v4 + 2))), .int (sc (Int32.toNatClampNeg (v4 + 3)))] rfl rfl rfl (by decide) (by decide) (Nat.le_of_ble_eq_true rfl) (by omega) (by omega) dL_law_546 (fun x55 M56 hf => ?_)
      refine r_istore (L' := [(6, .int x55), (5, .int x53), (0, .ref b), (1, .ref (Z.1 0)), (2, .ref (Z.1 27)), (3, .ref (Z.1 43)), (4, .int v4)]) hC dL_law_549 (by decide) rfl ?_
      refine r_aload_n hC dL_law_551 4 rfl ?_
      refine r_callVI [] (fun r M1 h => c_X6_thrown (cx_st hC) hz hZ  _  r M1 h) hf cs_L_99 hC (z_1 hZ 27 (by decide) rfl) (q0 := (RX6, TX6, 19)) rfl rfl [] rfl rfl rfl (by decide) (by decide) (Nat.le_of_ble_eq_true rfl) (by omega) (by omega) dL_law_552 (fun x57 M58 hf => ?_)
      refine r_iload hC dL_law_555 1 rfl ?_
      refine r_icmp_eq 562 hC dL_law_557 (by decide) (fun h => ?_) (fun h => ?_)
      · have hf := if_T hf h
        refine r_iload hC dL_law_562 1 rfl ?_
        refine r_if_ne 579 hC dL_law_564 (by decide) (fun h => ?_) (fun h => ?_)
        · have hf := if_F hf h
          refine r_goto 1704 hC dL_law_579 (by decide) ?_
          refine r_iinc (v := v4 + 4) (L' := [(4, .int (v4 + 4)), (6, .int x55), (5, .int x53), (0, .ref b), (1, .ref (Z.1 0)), (2, .ref (Z.1 27)), (3, .ref (Z.1 43))]) hC dL_law_1704 6 rfl rfl (by decide) rfl ?_
          refine r_goto 23 hC dL_law_1707 (by decide) ?_
          refine r_L [3, 4, 5, 6, 0] rfl ?_
          exact hkk _ _ (by omega) (by omega) _ _ hf
        · have hf := if_T hf h
          refine r_aload_n hC dL_law_567 5 rfl ?_
          refine r_iconst (v := 0) hC dL_law_568 rfl ?_
          refine r_lald hC (z_1 hZ 43 (by decide) rfl) (inb_vp (by decide)) dL_law_569 ?_
          refine r_iload hC dL_law_570 0 rfl ?_
          refine r_i2l hC dL_law_572 ?_
          refine r_lcmp hC dL_law_573 ?_
          refine r_if_eq 579 hC dL_law_574 (by decide) (fun h => ?_) (fun h => ?_)
          · have hf := if_T hf h
            refine r_goto 1704 hC dL_law_579 (by decide) ?_
            refine r_iinc (v := v4 + 4) (L' := [(4, .int (v4 + 4)), (6, .int x55), (5, .int x53), (0, .ref b), (1, .ref (Z.1 0)), (2, .ref (Z.1 27)), (3, .ref (Z.1 43))]) hC dL_law_1704 6 rfl rfl (by decide) rfl ?_
            refine r_goto 23 hC dL_law_1707 (by decide) ?_
            refine r_L [3, 4, 5, 6, 0] rfl ?_
            exact hkk _ _ (by omega) (by omega) _ _ hf
          · have hf := if_F hf h
            refine r_iconst (v := 0) hC dL_law_577 rfl ?_
            cases hf
      · have hf := if_F hf h
        refine r_iconst (v := 0) hC dL_law_560 rfl ?_
        cases hf
    have hf := if_F hf e7
    by_cases e8 : ((sc (Int32.toNatClampNeg v4)) &&& 31) = 8
    · have hf := if_T hf e8
      refine r_swIn (c := 8) (tgt := 582) hC dL_law_39 e8 (by decide) (by decide) rfl (by decide) ?_
      refine r_aload_n hC dL_law_582 1 rfl ?_
      refine r_aload_n hC dL_law_583 0 rfl ?_
      refine r_iload hC dL_law_584 4 rfl ?_
      refine r_iconst (v := 1) hC dL_law_586 rfl ?_
      refine r_iadd hC dL_law_587 ?_
      have hin := if_K hf
      have hf := if_V hf
      refine r_sld hC hl (inb_vp hin) dL_law_588 ?_
      refine r_aload_n hC dL_law_589 0 rfl ?_
      refine r_iload hC dL_law_590 4 rfl ?_
      refine r_iconst (v := 2) hC dL_law_592 rfl ?_
      refine r_iadd hC dL_law_593 ?_
      have hin := if_K hf
      have hf := if_V hf
      refine r_sld hC hl (inb_vp hin) dL_law_594 ?_
      refine r_aload_n hC dL_law_595 3 rfl ?_
      refine r_wcall [] (fun r M1 h => c_L_transpose (cx_st hC) hz hZ (sc (Int32.toNatClampNeg (v4 + 1))) (sc (Int32.toNatClampNeg (v4 + 2))) _ r M1 h) hf cs_L_129 hC rfl rfl (by decide) (by decide) (Nat.le_of_ble_eq_true rfl) (by omega) (by omega) dL_law_596 (fun x59 M60 hf => ?_)
      refine r_istore (L' := [(5, .int x59), (0, .ref b), (1, .ref (Z.1 0)), (2, .ref (Z.1 27)), (3, .ref (Z.1 43)), (4, .int v4)]) hC dL_law_599 (by decide) rfl ?_
      refine r_aload_n hC dL_law_601 3 rfl ?_
      refine r_aload_n hC dL_law_602 1 rfl ?_
      refine r_iload hC dL_law_603 5 rfl ?_
      refine r_iconst (v := 1) hC dL_law_605 rfl ?_
      refine r_iadd hC dL_law_606 ?_
      have hin := if_K hf
      have hf := if_V hf
      refine r_sld hC hl (inb_vp hin) dL_law_607 ?_
      refine r_aload_n hC dL_law_608 1 rfl ?_
      refine r_iload hC dL_law_609 5 rfl ?_
      refine r_iconst (v := 2) hC dL_law_611 rfl ?_
      refine r_iadd hC dL_law_612 ?_
      have hin := if_K hf
      have hf := if_V hf
      refine r_sld hC hl (inb_vp hin) dL_law_613 ?_
      refine r_callVI [] (fun r M1 h => c_X6_transpose (cx_st hC) hz hZ (sc (Int32.toNatClampNeg (v4 + 1))) (sc (Int32.toNatClampNeg (v4 + 2))) _  r M1 h) hf cs_L_131 hC (z_1 hZ 27 (by decide) rfl) (q0 := (RX6, TX6, 19)) rfl rfl [.int (sc (Int32.toNatClampNeg (v4 + 1))), .int (sc (Int32.toNatClampNeg (v4 + 2)))] rfl rfl rfl (by decide) (by decide) (Nat.le_of_ble_eq_true rfl) (by omega) (by omega) dL_law_614 (fun x61 M62 hf => ?_)
      refine r_istore (L' := [(6, .int x61), (5, .int x59), (0, .ref b), (1, .ref (Z.1 0)), (2, .ref (Z.1 27)), (3, .ref (Z.1 43)), (4, .int v4)]) hC dL_law_617 (by decide) rfl ?_
      refine r_aload_n hC dL_law_619 4 rfl ?_
      refine r_callVI [] (fun r M1 h => c_X6_thrown (cx_st hC) hz hZ  _  r M1 h) hf cs_L_99 hC (z_1 hZ 27 (by decide) rfl) (q0 := (RX6, TX6, 19)) rfl rfl [] rfl rfl rfl (by decide) (by decide) (Nat.le_of_ble_eq_true rfl) (by omega) (by omega) dL_law_620 (fun x63 M64 hf => ?_)
      refine r_iload hC dL_law_623 1 rfl ?_
      refine r_icmp_eq 630 hC dL_law_625 (by decide) (fun h => ?_) (fun h => ?_)
      · have hf := if_T hf h
        refine r_iload hC dL_law_630 1 rfl ?_
        refine r_if_ne 647 hC dL_law_632 (by decide) (fun h => ?_) (fun h => ?_)
        · have hf := if_F hf h
          refine r_goto 1704 hC dL_law_647 (by decide) ?_
          refine r_iinc (v := v4 + 4) (L' := [(4, .int (v4 + 4)), (6, .int x61), (5, .int x59), (0, .ref b), (1, .ref (Z.1 0)), (2, .ref (Z.1 27)), (3, .ref (Z.1 43))]) hC dL_law_1704 6 rfl rfl (by decide) rfl ?_
          refine r_goto 23 hC dL_law_1707 (by decide) ?_
          refine r_L [3, 4, 5, 6, 0] rfl ?_
          exact hkk _ _ (by omega) (by omega) _ _ hf
        · have hf := if_T hf h
          refine r_aload_n hC dL_law_635 5 rfl ?_
          refine r_iconst (v := 0) hC dL_law_636 rfl ?_
          refine r_lald hC (z_1 hZ 43 (by decide) rfl) (inb_vp (by decide)) dL_law_637 ?_
          refine r_iload hC dL_law_638 0 rfl ?_
          refine r_i2l hC dL_law_640 ?_
          refine r_lcmp hC dL_law_641 ?_
          refine r_if_eq 647 hC dL_law_642 (by decide) (fun h => ?_) (fun h => ?_)
          · have hf := if_T hf h
            refine r_goto 1704 hC dL_law_647 (by decide) ?_
            refine r_iinc (v := v4 + 4) (L' := [(4, .int (v4 + 4)), (6, .int x61), (5, .int x59), (0, .ref b), (1, .ref (Z.1 0)), (2, .ref (Z.1 27)), (3, .ref (Z.1 43))]) hC dL_law_1704 6 rfl rfl (by decide) rfl ?_
            refine r_goto 23 hC dL_law_1707 (by decide) ?_
            refine r_L [3, 4, 5, 6, 0] rfl ?_
            exact hkk _ _ (by omega) (by omega) _ _ hf
          · have hf := if_F hf h
            refine r_iconst (v := 0) hC dL_law_645 rfl ?_
            cases hf
      · have hf := if_F hf h
        refine r_iconst (v := 0) hC dL_law_628 rfl ?_
        cases hf
    have hf := if_F hf e8
    by_cases e9 : ((sc (Int32.toNatClampNeg v4)) &&& 31) = 9
    · have hf := if_T hf e9
      refine r_swIn (c := 9) (tgt := 650) hC dL_law_39 e9 (by decide) (by decide) rfl (by decide) ?_
      refine r_aload_n hC dL_law_650 1 rfl ?_
      refine r_aload_n hC dL_law_651 0 rfl ?_
      refine r_iload hC dL_law_652 4 rfl ?_
      refine r_iconst (v := 1) hC dL_law_654 rfl ?_
      refine r_iadd hC dL_law_655 ?_
      have hin := if_K hf
      have hf := if_V hf
      refine r_sld hC hl (inb_vp hin) dL_law_656 ?_
      refine r_aload_n hC dL_law_657 0 rfl ?_
      refine r_iload hC dL_law_658 4 rfl ?_
      refine r_iconst (v := 2) hC dL_law_660 rfl ?_
      refine r_iadd hC dL_law_661 ?_
      have hin := if_K hf
      have hf := if_V hf
      refine r_sld hC hl (inb_vp hin) dL_law_662 ?_
      refine r_aload_n hC dL_law_663 3 rfl ?_
      refine r_wcall [] (fun r M1 h => c_L_exchange (cx_st hC) hz hZ (sc (Int32.toNatClampNeg (v4 + 1))) (sc (Int32.toNatClampNeg (v4 + 2))) _ r M1 h) hf cs_L_132 hC rfl rfl (by decide) (by decide) (Nat.le_of_ble_eq_true rfl) (by omega) (by omega) dL_law_664 (fun x65 M66 hf => ?_)
      refine r_istore (L' := [(5, .int x65), (0, .ref b), (1, .ref (Z.1 0)), (2, .ref (Z.1 27)), (3, .ref (Z.1 43)), (4, .int v4)]) hC dL_law_667 (by decide) rfl ?_
      refine r_aload_n hC dL_law_669 3 rfl ?_
      refine r_aload_n hC dL_law_670 1 rfl ?_
      refine r_iload hC dL_law_671 5 rfl ?_
      refine r_iconst (v := 1) hC dL_law_673 rfl ?_
      refine r_iadd hC dL_law_674 ?_
      have hin := if_K hf
      have hf := if_V hf
      refine r_sld hC hl (inb_vp hin) dL_law_675 ?_
      refine r_aload_n hC dL_law_676 1 rfl ?_
      refine r_iload hC dL_law_677 5 rfl ?_
      refine r_iconst (v := 2) hC dL_law_679 rfl ?_
      refine r_iadd hC dL_law_680 ?_
      have hin := if_K hf
      have hf := if_V hf
      refine r_sld hC hl (inb_vp hin) dL_law_681 ?_
      refine r_callVI [] (fun r M1 h => c_X6_exchange (cx_st hC) hz hZ (sc (Int32.toNatClampNeg (v4 + 1))) (sc (Int32.toNatClampNeg (v4 + 2))) _  r M1 h) hf cs_L_134 hC (z_1 hZ 27 (by decide) rfl) (q0 := (RX6, TX6, 19)) rfl rfl [.int (sc (Int32.toNatClampNeg (v4 + 1))), .int (sc (Int32.toNatClampNeg (v4 + 2)))] rfl rfl rfl (by decide) (by decide) (Nat.le_of_ble_eq_true rfl) (by omega) (by omega) dL_law_682 (fun x67 M68 hf => ?_)
      refine r_istore (L' := [(6, .int x67), (5, .int x65), (0, .ref b), (1, .ref (Z.1 0)), (2, .ref (Z.1 27)), (3, .ref (Z.1 43)), (4, .int v4)]) hC dL_law_685 (by decide) rfl ?_
      refine r_aload_n hC dL_law_687 4 rfl ?_
      refine r_callVI [] (fun r M1 h => c_X6_thrown (cx_st hC) hz hZ  _  r M1 h) hf cs_L_99 hC (z_1 hZ 27 (by decide) rfl) (q0 := (RX6, TX6, 19)) rfl rfl [] rfl rfl rfl (by decide) (by decide) (Nat.le_of_ble_eq_true rfl) (by omega) (by omega) dL_law_688 (fun x69 M70 hf => ?_)
      refine r_iload hC dL_law_691 1 rfl ?_
      refine r_icmp_eq 698 hC dL_law_693 (by decide) (fun h => ?_) (fun h => ?_)
      · have hf := if_T hf h
        refine r_iload hC dL_law_698 1 rfl ?_
        refine r_if_ne 715 hC dL_law_700 (by decide) (fun h => ?_) (fun h => ?_)
        · have hf := if_F hf h
          refine r_goto 1704 hC dL_law_715 (by decide) ?_
          refine r_iinc (v := v4 + 4) (L' := [(4, .int (v4 + 4)), (6, .int x67), (5, .int x65), (0, .ref b), (1, .ref (Z.1 0)), (2, .ref (Z.1 27)), (3, .ref (Z.1 43))]) hC dL_law_1704 6 rfl rfl (by decide) rfl ?_
          refine r_goto 23 hC dL_law_1707 (by decide) ?_
          refine r_L [3, 4, 5, 6, 0] rfl ?_
          exact hkk _ _ (by omega) (by omega) _ _ hf
        · have hf := if_T hf h
          refine r_aload_n hC dL_law_703 5 rfl ?_
          refine r_iconst (v := 0) hC dL_law_704 rfl ?_
          refine r_lald hC (z_1 hZ 43 (by decide) rfl) (inb_vp (by decide)) dL_law_705 ?_
          refine r_iload hC dL_law_706 0 rfl ?_
          refine r_i2l hC dL_law_708 ?_
          refine r_lcmp hC dL_law_709 ?_
          refine r_if_eq 715 hC dL_law_710 (by decide) (fun h => ?_) (fun h => ?_)
          · have hf := if_T hf h
            refine r_goto 1704 hC dL_law_715 (by decide) ?_
            refine r_iinc (v := v4 + 4) (L' := [(4, .int (v4 + 4)), (6, .int x67), (5, .int x65), (0, .ref b), (1, .ref (Z.1 0)), (2, .ref (Z.1 27)), (3, .ref (Z.1 43))]) hC dL_law_1704 6 rfl rfl (by decide) rfl ?_
            refine r_goto 23 hC dL_law_1707 (by decide) ?_
            refine r_L [3, 4, 5, 6, 0] rfl ?_
            exact hkk _ _ (by omega) (by omega) _ _ hf
          · have hf := if_F hf h
            refine r_iconst (v := 0) hC dL_law_713 rfl ?_
            cases hf
      · have hf := if_F hf h
        refine r_iconst (v := 0) hC dL_law_696 rfl ?_
        cases hf
    have hf := if_F hf e9
    by_cases e10 : ((sc (Int32.toNatClampNeg v4)) &&& 31) = 10
    · have hf := if_T hf e10
      refine r_swIn (c := 10) (tgt := 718) hC dL_law_39 e10 (by decide) (by decide) rfl (by decide) ?_
      refine r_aload_n hC dL_law_718 1 rfl ?_
      refine r_aload_n hC dL_law_719 0 rfl ?_
      refine r_iload hC dL_law_720 4 rfl ?_
      refine r_iconst (v := 1) hC dL_law_722 rfl ?_
      refine r_iadd hC dL_law_723 ?_
      have hin := if_K hf
      have hf := if_V hf
      refine r_sld hC hl (inb_vp hin) dL_law_724 ?_
      refine r_if_eq 732 hC dL_law_725 (by decide) (fun h => ?_) (fun h => ?_)
      · have hf := if_T hf h
        refine r_iconst (v := 0) hC dL_law_732 rfl ?_
        refine r_aload_n hC dL_law_733 3 rfl ?_
        refine r_wcall [] (fun r M1 h => c_L_staff (cx_st hC) hz hZ 0 _ r M1 h) hf cs_L_135 hC rfl rfl (by decide) (by decide) (Nat.le_of_ble_eq_true rfl) (by omega) (by omega) dL_law_734 (fun x71 M72 hf => ?_)
        refine r_istore (L' := [(5, .int x71), (0, .ref b), (1, .ref (Z.1 0)), (2, .ref (Z.1 27)), (3, .ref (Z.1 43)), (4, .int v4)]) hC dL_law_737 (by decide) rfl ?_
        refine r_aload_n hC dL_law_739 3 rfl ?_
        refine r_aload_n hC dL_law_740 1 rfl ?_
        refine r_iload hC dL_law_741 5 rfl ?_
        refine r_iconst (v := 1) hC dL_law_743 rfl ?_
        refine r_iadd hC dL_law_744 ?_
        have hin := if_K hf
        have hf := if_V hf
        refine r_sld hC hl (inb_vp hin) dL_law_745 ?_
        refine r_if_eq 753 hC dL_law_746 (by decide) (fun h => ?_) (fun h => ?_)
        · have hf := if_T hf h
          refine r_iconst (v := 0) hC dL_law_753 rfl ?_
          refine r_callVI [] (fun r M1 h => c_X6_staff (cx_st hC) hz hZ 0 _  r M1 h) hf cs_L_138 hC (z_1 hZ 27 (by decide) rfl) (q0 := (RX6, TX6, 19)) rfl rfl [.int 0] rfl rfl rfl (by decide) (by decide) (Nat.le_of_ble_eq_true rfl) (by omega) (by omega) dL_law_754 (fun x73 M74 hf => ?_)
          refine r_istore (L' := [(6, .int x73), (5, .int x71), (0, .ref b), (1, .ref (Z.1 0)), (2, .ref (Z.1 27)), (3, .ref (Z.1 43)), (4, .int v4)]) hC dL_law_757 (by decide) rfl ?_
          refine r_aload_n hC dL_law_759 4 rfl ?_
          refine r_callVI [] (fun r M1 h => c_X6_thrown (cx_st hC) hz hZ  _  r M1 h) hf cs_L_99 hC (z_1 hZ 27 (by decide) rfl) (q0 := (RX6, TX6, 19)) rfl rfl [] rfl rfl rfl (by decide) (by decide) (Nat.le_of_ble_eq_true rfl) (by omega) (by omega) dL_law_760 (fun x75 M76 hf => ?_)
          refine r_iload hC dL_law_763 1 rfl ?_
          refine r_icmp_eq 770 hC dL_law_765 (by decide) (fun h => ?_) (fun h => ?_)
          · have hf := if_T hf h
            refine r_iload hC dL_law_770 1 rfl ?_
            refine r_if_ne 787 hC dL_law_772 (by decide) (fun h => ?_) (fun h => ?_)
            · have hf := if_F hf h
              refine r_goto 1704 hC dL_law_787 (by decide) ?_
              refine r_iinc (v := v4 + 4) (L' := [(4, .int (v4 + 4)), (6, .int x73), (5, .int x71), (0, .ref b), (1, .ref (Z.1 0)), (2, .ref (Z.1 27)), (3, .ref (Z.1 43))]) hC dL_law_1704 6 rfl rfl (by decide) rfl ?_
              refine r_goto 23 hC dL_law_1707 (by decide) ?_
              refine r_L [3, 4, 5, 6, 0] rfl ?_
              exact hkk _ _ (by omega) (by omega) _ _ hf
            · have hf := if_T hf h
              refine r_aload_n hC dL_law_775 5 rfl ?_
              refine r_iconst (v := 0) hC dL_law_776 rfl ?_
              refine r_lald hC (z_1 hZ 43 (by decide) rfl) (inb_vp (by decide)) dL_law_777 ?_
              refine r_iload hC dL_law_778 0 rfl ?_
              refine r_i2l hC dL_law_780 ?_
              refine r_lcmp hC dL_law_781 ?_
              refine r_if_eq 787 hC dL_law_782 (by decide) (fun h => ?_) (fun h => ?_)
              · have hf := if_T hf h
                refine r_goto 1704 hC dL_law_787 (by decide) ?_
                refine r_iinc (v := v4 + 4) (L' := [(4, .int (v4 + 4)), (6, .int x73), (5, .int x71), (0, .ref b), (1, .ref (Z.1 0)), (2, .ref (Z.1 27)), (3, .ref (Z.1 43))]) hC dL_law_1704 6 rfl rfl (by decide) rfl ?_
                refine r_goto 23 hC dL_law_1707 (by decide) ?_
                refine r_L [3, 4, 5, 6, 0] rfl ?_
                exact hkk _ _ (by omega) (by omega) _ _ hf
              · have hf := if_F hf h
                refine r_iconst (v := 0) hC dL_law_785 rfl ?_
                cases hf
          · have hf := if_F hf h
            refine r_iconst (v := 0) hC dL_law_768 rfl ?_
            cases hf
        · have hf := if_F hf h
          refine r_iconst (v := 1) hC dL_law_749 rfl ?_
          refine r_goto 754 hC dL_law_750 (by decide) ?_
          refine r_callVI [] (fun r M1 h => c_X6_staff (cx_st hC) hz hZ 1 _  r M1 h) hf cs_L_138 hC (z_1 hZ 27 (by decide) rfl) (q0 := (RX6, TX6, 19)) rfl rfl [.int 1] rfl rfl rfl (by decide) (by decide) (Nat.le_of_ble_eq_true rfl) (by omega) (by omega) dL_law_754 (fun x77 M78 hf => ?_)
          refine r_istore (L' := [(6, .int x77), (5, .int x71), (0, .ref b), (1, .ref (Z.1 0)), (2, .ref (Z.1 27)), (3, .ref (Z.1 43)), (4, .int v4)]) hC dL_law_757 (by decide) rfl ?_
          refine r_aload_n hC dL_law_759 4 rfl ?_
          refine r_callVI [] (fun r M1 h => c_X6_thrown (cx_st hC) hz hZ  _  r M1 h) hf cs_L_99 hC (z_1 hZ 27 (by decide) rfl) (q0 := (RX6, TX6, 19)) rfl rfl [] rfl rfl rfl (by decide) (by decide) (Nat.le_of_ble_eq_true rfl) (by omega) (by omega) dL_law_760 (fun x79 M80 hf => ?_)
          refine r_iload hC dL_law_763 1 rfl ?_
          refine r_icmp_eq 770 hC dL_law_765 (by decide) (fun h => ?_) (fun h => ?_)
          · have hf := if_T hf h
            refine r_iload hC dL_law_770 1 rfl ?_
            refine r_if_ne 787 hC dL_law_772 (by decide) (fun h => ?_) (fun h => ?_)
            · have hf := if_F hf h
              refine r_goto 1704 hC dL_law_787 (by decide) ?_
              refine r_iinc (v := v4 + 4) (L' := [(4, .int (v4 + 4)), (6, .int x77), (5, .int x71), (0, .ref b), (1, .ref (Z.1 0)), (2, .ref (Z.1 27)), (3, .ref (Z.1 43))]) hC dL_law_1704 6 rfl rfl (by decide) rfl ?_
              refine r_goto 23 hC dL_law_1707 (by decide) ?_
              refine r_L [3, 4, 5, 6, 0] rfl ?_
              exact hkk _ _ (by omega) (by omega) _ _ hf
            · have hf := if_T hf h
              refine r_aload_n hC dL_law_775 5 rfl ?_
              refine r_iconst (v := 0) hC dL_law_776 rfl ?_
              refine r_lald hC (z_1 hZ 43 (by decide) rfl) (inb_vp (by decide)) dL_law_777 ?_
              refine r_iload hC dL_law_778 0 rfl ?_
              refine r_i2l hC dL_law_780 ?_
              refine r_lcmp hC dL_law_781 ?_
              refine r_if_eq 787 hC dL_law_782 (by decide) (fun h => ?_) (fun h => ?_)
              · have hf := if_T hf h
                refine r_goto 1704 hC dL_law_787 (by decide) ?_
                refine r_iinc (v := v4 + 4) (L' := [(4, .int (v4 + 4)), (6, .int x77), (5, .int x71), (0, .ref b), (1, .ref (Z.1 0)), (2, .ref (Z.1 27)), (3, .ref (Z.1 43))]) hC dL_law_1704 6 rfl rfl (by decide) rfl ?_
                refine r_goto 23 hC dL_law_1707 (by decide) ?_
                refine r_L [3, 4, 5, 6, 0] rfl ?_
                exact hkk _ _ (by omega) (by omega) _ _ hf
              · have hf := if_F hf h
                refine r_iconst (v := 0) hC dL_law_785 rfl ?_
                cases hf
          · have hf := if_F hf h
            refine r_iconst (v := 0) hC dL_law_768 rfl ?_
            cases hf
      · have hf := if_F hf h
        refine r_iconst (v := 1) hC dL_law_728 rfl ?_
        refine r_goto 733 hC dL_law_729 (by decide) ?_
        refine r_aload_n hC dL_law_733 3 rfl ?_
        refine r_wcall [] (fun r M1 h => c_L_staff (cx_st hC) hz hZ 1 _ r M1 h) hf cs_L_135 hC rfl rfl (by decide) (by decide) (Nat.le_of_ble_eq_true rfl) (by omega) (by omega) dL_law_734 (fun x81 M82 hf => ?_)
        refine r_istore (L' := [(5, .int x81), (0, .ref b), (1, .ref (Z.1 0)), (2, .ref (Z.1 27)), (3, .ref (Z.1 43)), (4, .int v4)]) hC dL_law_737 (by decide) rfl ?_
        refine r_aload_n hC dL_law_739 3 rfl ?_
        refine r_aload_n hC dL_law_740 1 rfl ?_
        refine r_iload hC dL_law_741 5 rfl ?_
        refine r_iconst (v := 1) hC dL_law_743 rfl ?_
        refine r_iadd hC dL_law_744 ?_
        have hin := if_K hf
        have hf := if_V hf
        refine r_sld hC hl (inb_vp hin) dL_law_745 ?_
        refine r_if_eq 753 hC dL_law_746 (by decide) (fun h => ?_) (fun h => ?_)
        · have hf := if_T hf h
          refine r_iconst (v := 0) hC dL_law_753 rfl ?_
          refine r_callVI [] (fun r M1 h => c_X6_staff (cx_st hC) hz hZ 0 _  r M1 h) hf cs_L_138 hC (z_1 hZ 27 (by decide) rfl) (q0 := (RX6, TX6, 19)) rfl rfl [.int 0] rfl rfl rfl (by decide) (by decide) (Nat.le_of_ble_eq_true rfl) (by omega) (by omega) dL_law_754 (fun x83 M84 hf => ?_)
          refine r_istore (L' := [(6, .int x83), (5, .int x81), (0, .ref b), (1, .ref (Z.1 0)), (2, .ref (Z.1 27)), (3, .ref (Z.1 43)), (4, .int v4)]) hC dL_law_757 (by decide) rfl ?_
          refine r_aload_n hC dL_law_759 4 rfl ?_
          refine r_callVI [] (fun r M1 h => c_X6_thrown (cx_st hC) hz hZ  _  r M1 h) hf cs_L_99 hC (z_1 hZ 27 (by decide) rfl) (q0 := (RX6, TX6, 19)) rfl rfl [] rfl rfl rfl (by decide) (by decide) (Nat.le_of_ble_eq_true rfl) (by omega) (by omega) dL_law_760 (fun x85 M86 hf => ?_)
          refine r_iload hC dL_law_763 1 rfl ?_
          refine r_icmp_eq 770 hC dL_law_765 (by decide) (fun h => ?_) (fun h => ?_)
          · have hf := if_T hf h
            refine r_iload hC dL_law_770 1 rfl ?_
            refine r_if_ne 787 hC dL_law_772 (by decide) (fun h => ?_) (fun h => ?_)
            · have hf := if_F hf h
              refine r_goto 1704 hC dL_law_787 (by decide) ?_
              refine r_iinc (v := v4 + 4) (L' := [(4, .int (v4 + 4)), (6, .int x83), (5, .int x81), (0, .ref b), (1, .ref (Z.1 0)), (2, .ref (Z.1 27)), (3, .ref (Z.1 43))]) hC dL_law_1704 6 rfl rfl (by decide) rfl ?_
              refine r_goto 23 hC dL_law_1707 (by decide) ?_
              refine r_L [3, 4, 5, 6, 0] rfl ?_
              exact hkk _ _ (by omega) (by omega) _ _ hf
            · have hf := if_T hf h
              refine r_aload_n hC dL_law_775 5 rfl ?_
              refine r_iconst (v := 0) hC dL_law_776 rfl ?_
              refine r_lald hC (z_1 hZ 43 (by decide) rfl) (inb_vp (by decide)) dL_law_777 ?_
              refine r_iload hC dL_law_778 0 rfl ?_
              refine r_i2l hC dL_law_780 ?_
              refine r_lcmp hC dL_law_781 ?_
              refine r_if_eq 787 hC dL_law_782 (by decide) (fun h => ?_) (fun h => ?_)
              · have hf := if_T hf h
                refine r_goto 1704 hC dL_law_787 (by decide) ?_
                refine r_iinc (v := v4 + 4) (L' := [(4, .int (v4 + 4)), (6, .int x83), (5, .int x81), (0, .ref b), (1, .ref (Z.1 0)), (2, .ref (Z.1 27)), (3, .ref (Z.1 43))]) hC dL_law_1704 6 rfl rfl (by decide) rfl ?_
                refine r_goto 23 hC dL_law_1707 (by decide) ?_
                refine r_L [3, 4, 5, 6, 0] rfl ?_
                exact hkk _ _ (by omega) (by omega) _ _ hf
              · have hf := if_F hf h
                refine r_iconst (v := 0) hC dL_law_785 rfl ?_
                cases hf
          · have hf := if_F hf h
            refine r_iconst (v := 0) hC dL_law_768 rfl ?_
            cases hf
        · have hf := if_F hf h
          refine r_iconst (v := 1) hC dL_law_749 rfl ?_
          refine r_goto 754 hC dL_law_750 (by decide) ?_
          refine r_callVI [] (fun r M1 h => c_X6_staff (cx_st hC) hz hZ 1 _  r M1 h) hf cs_L_138 hC (z_1 hZ 27 (by decide) rfl) (q0 := (RX6, TX6, 19)) rfl rfl [.int 1] rfl rfl rfl (by decide) (by decide) (Nat.le_of_ble_eq_true rfl) (by omega) (by omega) dL_law_754 (fun x87 M88 hf => ?_)
          refine r_istore (L' := [(6, .int x87), (5, .int x81), (0, .ref b), (1, .ref (Z.1 0)), (2, .ref (Z.1 27)), (3, .ref (Z.1 43)), (4, .int v4)]) hC dL_law_757 (by decide) rfl ?_
          refine r_aload_n hC dL_law_759 4 rfl ?_
          refine r_callVI [] (fun r M1 h => c_X6_thrown (cx_st hC) hz hZ  _  r M1 h) hf cs_L_99 hC (z_1 hZ 27 (by decide) rfl) (q0 := (RX6, TX6, 19)) rfl rfl [] rfl rfl rfl (by decide) (by decide) (Nat.le_of_ble_eq_true rfl) (by omega) (by omega) dL_law_760 (fun x89 M90 hf => ?_)
          refine r_iload hC dL_law_763 1 rfl ?_
          refine r_icmp_eq 770 hC dL_law_765 (by decide) (fun h => ?_) (fun h => ?_)
          · have hf := if_T hf h
            refine r_iload hC dL_law_770 1 rfl ?_
            refine r_if_ne 787 hC dL_law_772 (by decide) (fun h => ?_) (fun h => ?_)
            · have hf := if_F hf h
              refine r_goto 1704 hC dL_law_787 (by decide) ?_
              refine r_iinc (v := v4 + 4) (L' := [(4, .int (v4 + 4)), (6, .int x87), (5, .int x81), (0, .ref b), (1, .ref (Z.1 0)), (2, .ref (Z.1 27)), (3, .ref (Z.1 43))]) hC dL_law_1704 6 rfl rfl (by decide) rfl ?_
              refine r_goto 23 hC dL_law_1707 (by decide) ?_
              refine r_L [3, 4, 5, 6, 0] rfl ?_
              exact hkk _ _ (by omega) (by omega) _ _ hf
            · have hf := if_T hf h
              refine r_aload_n hC dL_law_775 5 rfl ?_
              refine r_iconst (v := 0) hC dL_law_776 rfl ?_
              refine r_lald hC (z_1 hZ 43 (by decide) rfl) (inb_vp (by decide)) dL_law_777 ?_
              refine r_iload hC dL_law_778 0 rfl ?_
              refine r_i2l hC dL_law_780 ?_
              refine r_lcmp hC dL_law_781 ?_
              refine r_if_eq 787 hC dL_law_782 (by decide) (fun h => ?_) (fun h => ?_)
              · have hf := if_T hf h
                refine r_goto 1704 hC dL_law_787 (by decide) ?_
                refine r_iinc (v := v4 + 4) (L' := [(4, .int (v4 + 4)), (6, .int x87), (5, .int x81), (0, .ref b), (1, .ref (Z.1 0)), (2, .ref (Z.1 27)), (3, .ref (Z.1 43))]) hC dL_law_1704 6 rfl rfl (by decide) rfl ?_
                refine r_goto 23 hC dL_law_1707 (by decide) ?_
                refine r_L [3, 4, 5, 6, 0] rfl ?_
                exact hkk _ _ (by omega) (by omega) _ _ hf
              · have hf := if_F hf h
                refine r_iconst (v := 0) hC dL_law_785 rfl ?_
                cases hf
          · have hf := if_F hf h
            refine r_iconst (v := 0) hC dL_law_768 rfl ?_
            cases hf
    have hf := if_F hf e10
    by_cases e11 : ((sc (Int32.toNatClampNeg v4)) &&& 31) = 11
    · have hf := if_T hf e11
      refine r_swIn (c := 11) (tgt := 790) hC dL_law_39 e11 (by decide) (by decide) rfl (by decide) ?_
      refine r_aload_n hC dL_law_790 1 rfl ?_
      refine r_aload_n hC dL_law_791 0 rfl ?_
      refine r_iload hC dL_law_792 4 rfl ?_
      refine r_iconst (v := 1) hC dL_law_794 rfl ?_
      refine r_iadd hC dL_law_795 ?_
      have hin := if_K hf
      have hf := if_V hf
      refine r_sld hC hl (inb_vp hin) dL_law_796 ?_
      refine r_aload_n hC dL_law_797 3 rfl ?_
      refine r_wcall [] (fun r M1 h => c_L_insertBeat (cx_st hC) hz hZ (sc (Int32.toNatClampNeg (v4 + 1))) _ r M1 h) hf cs_L_139 hC rfl rfl (by decide) (by decide) (Nat.le_of_ble_eq_true rfl) (by omega) (by omega) dL_law_798 (fun x91 M92 hf => ?_)
      refine r_istore (L' := [(5, .int x91), (0, .ref b), (1, .ref (Z.1 0)), (2, .ref (Z.1 27)), (3, .ref (Z.1 43)), (4, .int v4)]) hC dL_law_801 (by decide) rfl ?_
      refine r_aload_n hC dL_law_803 3 rfl ?_
      refine r_aload_n hC dL_law_804 1 rfl ?_
      refine r_iload hC dL_law_805 5 rfl ?_
      refine r_iconst (v := 1) hC dL_law_807 rfl ?_
      refine r_iadd hC dL_law_808 ?_
      have hin := if_K hf
      have hf := if_V hf
      refine r_sld hC hl (inb_vp hin) dL_law_809 ?_
      refine r_callVI [] (fun r M1 h => c_X6_insertBeat (cx_st hC) hz hZ (sc (Int32.toNatClampNeg (v4 + 1))) _  r M1 h) hf cs_L_141 hC (z_1 hZ 27 (by decide) rfl) (q0 := (RX6, TX6, 19)) rfl rfl [.int (sc (Int32.toNatClampNeg (v4 + 1)))] rfl rfl rfl (by decide) (by decide) (Nat.le_of_ble_eq_true rfl) (by omega) (by omega) dL_law_810 (fun x93 M94 hf => ?_)
      refine r_istore (L' := [(6, .int x93), (5, .int x91), (0, .ref b), (1, .ref (Z.1 0)), (2, .ref (Z.1 27)), (3, .ref (Z.1 43)), (4, .int v4)]) hC dL_law_813 (by decide) rfl ?_
      refine r_aload_n hC dL_law_815 4 rfl ?_
      refine r_callVI [] (fun r M1 h => c_X6_thrown (cx_st hC) hz hZ  _  r M1 h) hf cs_L_99 hC (z_1 hZ 27 (by decide) rfl) (q0 := (RX6, TX6, 19)) rfl rfl [] rfl rfl rfl (by decide) (by decide) (Nat.le_of_ble_eq_true rfl) (by omega) (by omega) dL_law_816 (fun x95 M96 hf => ?_)
      refine r_iload hC dL_law_819 1 rfl ?_
      refine r_icmp_eq 826 hC dL_law_821 (by decide) (fun h => ?_) (fun h => ?_)
      · have hf := if_T hf h
        refine r_iload hC dL_law_826 1 rfl ?_
        refine r_if_ne 843 hC dL_law_828 (by decide) (fun h => ?_) (fun h => ?_)
        · have hf := if_F hf h
          refine r_goto 1704 hC dL_law_843 (by decide) ?_
          refine r_iinc (v := v4 + 4) (L' := [(4, .int (v4 + 4)), (6, .int x93), (5, .int x91), (0, .ref b), (1, .ref (Z.1 0)), (2, .ref (Z.1 27)), (3, .ref (Z.1 43))]) hC dL_law_1704 6 rfl rfl (by decide) rfl ?_
          refine r_goto 23 hC dL_law_1707 (by decide) ?_
          refine r_L [3, 4, 5, 6, 0] rfl ?_
          exact hkk _ _ (by omega) (by omega) _ _ hf
        · have hf := if_T hf h
          refine r_aload_n hC dL_law_831 5 rfl ?_
          refine r_iconst (v := 0) hC dL_law_832 rfl ?_
          refine r_lald hC (z_1 hZ 43 (by decide) rfl) (inb_vp (by decide)) dL_law_833 ?_
          refine r_iload hC dL_law_834 0 rfl ?_
          refine r_i2l hC dL_law_836 ?_
          refine r_lcmp hC dL_law_837 ?_
          refine r_if_eq 843 hC dL_law_838 (by decide) (fun h => ?_) (fun h => ?_)
          · have hf := if_T hf h
            refine r_goto 1704 hC dL_law_843 (by decide) ?_
            refine r_iinc (v := v4 + 4) (L' := [(4, .int (v4 + 4)), (6, .int x93), (5, .int x91), (0, .ref b), (1, .ref (Z.1 0)), (2, .ref (Z.1 27)), (3, .ref (Z.1 43))]) hC dL_law_1704 6 rfl rfl (by decide) rfl ?_
            refine r_goto 23 hC dL_law_1707 (by decide) ?_
            refine r_L [3, 4, 5, 6, 0] rfl ?_
            exact hkk _ _ (by omega) (by omega) _ _ hf
          · have hf := if_F hf h
            refine r_iconst (v := 0) hC dL_law_841 rfl ?_
            cases hf
      · have hf := if_F hf h
        refine r_iconst (v := 0) hC dL_law_824 rfl ?_
        cases hf
    have hf := if_F hf e11
    by_cases e12 : ((sc (Int32.toNatClampNeg v4)) &&& 31) = 12
    · have hf := if_T hf e12
      refine r_swIn (c := 12) (tgt := 846) hC dL_law_39 e12 (by decide) (by decide) rfl (by decide) ?_
      refine r_aload_n hC dL_law_846 1 rfl ?_
      refine r_aload_n hC dL_law_847 0 rfl ?_
      refine r_iload hC dL_law_848 4 rfl ?_
      refine r_iconst (v := 1) hC dL_law_850 rfl ?_
      refine r_iadd hC dL_law_851 ?_
      have hin := if_K hf
      have hf := if_V hf
      refine r_sld hC hl (inb_vp hin) dL_law_852 ?_
      refine r_aload_n hC dL_law_853 3 rfl ?_
      refine r_wcall [] (fun r M1 h => c_L_removeBeat (cx_st hC) hz hZ (sc (Int32.toNatClampNeg (v4 + 1))) _ r M1 h) hf cs_L_142 hC rfl rfl (by decide) (by decide) (Nat.le_of_ble_eq_true rfl) (by omega) (by omega) dL_law_854 (fun x97 M98 hf => ?_)
      refine r_istore (L' := [(5, .int x97), (0, .ref b), (1, .ref (Z.1 0)), (2, .ref (Z.1 27)), (3, .ref (Z.1 43)), (4, .int v4)]) hC dL_law_857 (by decide) rfl ?_
      refine r_aload_n hC dL_law_859 3 rfl ?_
      refine r_aload_n hC dL_law_860 1 rfl ?_
      refine r_iload hC dL_law_861 5 rfl ?_
      refine r_iconst (v := 1) hC dL_law_863 rfl ?_
      refine r_iadd hC dL_law_864 ?_
      have hin := if_K hf
      have hf := if_V hf
      refine r_sld hC hl (inb_vp hin) dL_law_865 ?_
      refine r_callVI [] (fun r M1 h => c_X6_removeBeat (cx_st hC) hz hZ (sc (Int32.toNatClampNeg (v4 + 1))) _  r M1 h) hf cs_L_144 hC (z_1 hZ 27 (by decide) rfl) (q0 := (RX6, TX6, 19)) rfl rfl [.int (sc (Int32.toNatClampNeg (v4 + 1)))] rfl rfl rfl (by decide) (by decide) (Nat.le_of_ble_eq_true rfl) (by omega) (by omega) dL_law_866 (fun x99 M100 hf => ?_)
      refine r_istore (L' := [(6, .int x99), (5, .int x97), (0, .ref b), (1, .ref (Z.1 0)), (2, .ref (Z.1 27)), (3, .ref (Z.1 43)), (4, .int v4)]) hC dL_law_869 (by decide) rfl ?_
      refine r_aload_n hC dL_law_871 4 rfl ?_
      refine r_callVI [] (fun r M1 h => c_X6_thrown (cx_st hC) hz hZ  _  r M1 h) hf cs_L_99 hC (z_1 hZ 27 (by decide) rfl) (q0 := (RX6, TX6, 19)) rfl rfl [] rfl rfl rfl (by decide) (by decide) (Nat.le_of_ble_eq_true rfl) (by omega) (by omega) dL_law_872 (fun x101 M102 hf => ?_)
      refine r_iload hC dL_law_875 1 rfl ?_
      refine r_icmp_eq 882 hC dL_law_877 (by decide) (fun h => ?_) (fun h => ?_)
      · have hf := if_T hf h
        refine r_iload hC dL_law_882 1 rfl ?_
        refine r_if_ne 899 hC dL_law_884 (by decide) (fun h => ?_) (fun h => ?_)
        · have hf := if_F hf h
          refine r_goto 1704 hC dL_law_899 (by decide) ?_
          refine r_iinc (v := v4 + 4) (L' := [(4, .int (v4 + 4)), (6, .int x99), (5, .int x97), (0, .ref b), (1, .ref (Z.1 0)), (2, .ref (Z.1 27)), (3, .ref (Z.1 43))]) hC dL_law_1704 6 rfl rfl (by decide) rfl ?_
          refine r_goto 23 hC dL_law_1707 (by decide) ?_
          refine r_L [3, 4, 5, 6, 0] rfl ?_
          exact hkk _ _ (by omega) (by omega) _ _ hf
        · have hf := if_T hf h
          refine r_aload_n hC dL_law_887 5 rfl ?_
          refine r_iconst (v := 0) hC dL_law_888 rfl ?_
          refine r_lald hC (z_1 hZ 43 (by decide) rfl) (inb_vp (by decide)) dL_law_889 ?_
          refine r_iload hC dL_law_890 0 rfl ?_
          refine r_i2l hC dL_law_892 ?_
          refine r_lcmp hC dL_law_893 ?_
          refine r_if_eq 899 hC dL_law_894 (by decide) (fun h => ?_) (fun h => ?_)
          · have hf := if_T hf h
            refine r_goto 1704 hC dL_law_899 (by decide) ?_
            refine r_iinc (v := v4 + 4) (L' := [(4, .int (v4 + 4)), (6, .int x99), (5, .int x97), (0, .ref b), (1, .ref (Z.1 0)), (2, .ref (Z.1 27)), (3, .ref (Z.1 43))]) hC dL_law_1704 6 rfl rfl (by decide) rfl ?_
            refine r_goto 23 hC dL_law_1707 (by decide) ?_
            refine r_L [3, 4, 5, 6, 0] rfl ?_
            exact hkk _ _ (by omega) (by omega) _ _ hf
          · have hf := if_F hf h
            refine r_iconst (v := 0) hC dL_law_897 rfl ?_
            cases hf
      · have hf := if_F hf h
        refine r_iconst (v := 0) hC dL_law_880 rfl ?_
        cases hf
    have hf := if_F hf e12
    by_cases e13 : ((sc (Int32.toNatClampNeg v4)) &&& 31) = 13
    · have hf := if_T hf e13
      refine r_swIn (c := 13) (tgt := 902) hC dL_law_39 e13 (by decide) (by decide) rfl (by decide) ?_
      refine r_aload_n hC dL_law_902 1 rfl ?_
      refine r_aload_n hC dL_law_903 3 rfl ?_
      refine r_wcall [] (fun r M1 h => c_L_undo (cx_st hC) hz hZ  _ r M1 h) hf cs_L_145 hC rfl rfl (by decide) (by decide) (Nat.le_of_ble_eq_true rfl) (by omega) (by omega) dL_law_904 (fun x103 M104 hf => ?_)
      refine r_istore (L' := [(5, .int x103), (0, .ref b), (1, .ref (Z.1 0)), (2, .ref (Z.1 27)), (3, .ref (Z.1 43)), (4, .int v4)]) hC dL_law_907 (by decide) rfl ?_
      refine r_aload_n hC dL_law_909 3 rfl ?_
      refine r_callVI [] (fun r M1 h => c_X6_undo (cx_st hC) hz hZ  _  r M1 h) hf cs_L_147 hC (z_1 hZ 27 (by decide) rfl) (q0 := (RX6, TX6, 19)) rfl rfl [] rfl rfl rfl (by decide) (by decide) (Nat.le_of_ble_eq_true rfl) (by omega) (by omega) dL_law_910 (fun x105 M106 hf => ?_)
      refine r_istore (L' := [(6, .int x105), (5, .int x103), (0, .ref b), (1, .ref (Z.1 0)), (2, .ref (Z.1 27)), (3, .ref (Z.1 43)), (4, .int v4)]) hC dL_law_913 (by decide) rfl ?_
      refine r_aload_n hC dL_law_915 4 rfl ?_
      refine r_callVI [] (fun r M1 h => c_X6_thrown (cx_st hC) hz hZ  _  r M1 h) hf cs_L_99 hC (z_1 hZ 27 (by decide) rfl) (q0 := (RX6, TX6, 19)) rfl rfl [] rfl rfl rfl (by decide) (by decide) (Nat.le_of_ble_eq_true rfl) (by omega) (by omega) dL_law_916 (fun x107 M108 hf => ?_)
      refine r_iload hC dL_law_919 1 rfl ?_
      refine r_icmp_eq 926 hC dL_law_921 (by decide) (fun h => ?_) (fun h => ?_)
      · have hf := if_T hf h
        refine r_iload hC dL_law_926 1 rfl ?_
        refine r_if_ne 943 hC dL_law_928 (by decide) (fun h => ?_) (fun h => ?_)
        · have hf := if_F hf h
          refine r_goto 1704 hC dL_law_943 (by decide) ?_
          refine r_iinc (v := v4 + 4) (L' := [(4, .int (v4 + 4)), (6, .int x105), (5, .int x103), (0, .ref b), (1, .ref (Z.1 0)), (2, .ref (Z.1 27)), (3, .ref (Z.1 43))]) hC dL_law_1704 6 rfl rfl (by decide) rfl ?_
          refine r_goto 23 hC dL_law_1707 (by decide) ?_
          refine r_L [3, 4, 5, 6, 0] rfl ?_
          exact hkk _ _ (by omega) (by omega) _ _ hf
        · have hf := if_T hf h
          refine r_aload_n hC dL_law_931 5 rfl ?_
          refine r_iconst (v := 0) hC dL_law_932 rfl ?_
          refine r_lald hC (z_1 hZ 43 (by decide) rfl) (inb_vp (by decide)) dL_law_933 ?_
          refine r_iload hC dL_law_934 0 rfl ?_
          refine r_i2l hC dL_law_936 ?_
          refine r_lcmp hC dL_law_937 ?_
          refine r_if_eq 943 hC dL_law_938 (by decide) (fun h => ?_) (fun h => ?_)
          · have hf := if_T hf h
            refine r_goto 1704 hC dL_law_943 (by decide) ?_
            refine r_iinc (v := v4 + 4) (L' := [(4, .int (v4 + 4)), (6, .int x105), (5, .int x103), (0, .ref b), (1, .ref (Z.1 0)), (2, .ref (Z.1 27)), (3, .ref (Z.1 43))]) hC dL_law_1704 6 rfl rfl (by decide) rfl ?_
            refine r_goto 23 hC dL_law_1707 (by decide) ?_
            refine r_L [3, 4, 5, 6, 0] rfl ?_
            exact hkk _ _ (by omega) (by omega) _ _ hf
          · have hf := if_F hf h
            refine r_iconst (v := 0) hC dL_law_941 rfl ?_
            cases hf
      · have hf := if_F hf h
        refine r_iconst (v := 0) hC dL_law_924 rfl ?_
        cases hf
    have hf := if_F hf e13
    by_cases e14 : ((sc (Int32.toNatClampNeg v4)) &&& 31) = 14
    · have hf := if_T hf e14
      refine r_swIn (c := 14) (tgt := 946) hC dL_law_39 e14 (by decide) (by decide) rfl (by decide) ?_
      refine r_aload_n hC dL_law_946 1 rfl ?_
      refine r_aload_n hC dL_law_947 0 rfl ?_
      refine r_iload hC dL_law_948 4 rfl ?_
      refine r_iconst (v := 1) hC dL_law_950 rfl ?_
      refine r_iadd hC dL_law_951 ?_
      have hin := if_K hf
      have hf := if_V hf
      refine r_sld hC hl (inb_vp hin) dL_law_952 ?_
      refine r_aload_n hC dL_law_953 0 rfl ?_
      refine r_iload hC dL_law_954 4 rfl ?_
      refine r_iconst (v := 2) hC dL_law_956 rfl ?_
      refine r_iadd hC dL_law_957 ?_
      have hin := if_K hf
      have hf := if_V hf
      refine r_sld hC hl (inb_vp hin) dL_law_958 ?_
      refine r_aload_n hC dL_law_959 0 rfl ?_
      refine r_iload hC dL_law_960 4 rfl ?_
      refine r_iconst (v := 3) hC dL_law_962 rfl ?_
      refine r_iadd hC dL_law_963 ?_
      have hin := if_K hf
      have hf := if_V hf
      refine r_sld hC hl (inb_vp hin) dL_law_964 ?_
      refine r_aload_n hC dL_law_965 3 rfl ?_
      refine r_wcall [] (fun r M1 h => c_L_note (cx_st hC) hz hZ (sc (Int32.toNatClampNeg (v4 + 1))) (sc (Int32.toNatClampNeg (v4 + 2))) (sc (Int32.toNatClampNeg (v4 + 3))) _ r M1 h) hf cs_L_148 hC rfl rfl (by decide) (by decide) (Nat.le_of_ble_eq_true rfl) (by omega) (by omega) dL_law_966 (fun x109 M110 hf => ?_)
      refine r_istore (L' := [(5, .int x109), (0, .ref b), (1, .ref (Z.1 0)), (2, .ref (Z.1 27)), (3, .ref (Z.1 43)), (4, .int v4)]) hC dL_law_969 (by decide) rfl ?_
      refine r_aload_n hC dL_law_971 3 rfl ?_
      refine r_aload_n hC dL_law_972 1 rfl ?_
      refine r_iload hC dL_law_973 5 rfl ?_
      refine r_iconst (v := 1) hC dL_law_975 rfl ?_
      refine r_iadd hC dL_law_976 ?_
      have hin := if_K hf
      have hf := if_V hf
      refine r_sld hC hl (inb_vp hin) dL_law_977 ?_
      refine r_aload_n hC dL_law_978 1 rfl ?_
      refine r_iload hC dL_law_979 5 rfl ?_
      refine r_iconst (v := 2) hC dL_law_981 rfl ?_
      refine r_iadd hC dL_law_982 ?_
      have hin := if_K hf
      have hf := if_V hf
      refine r_sld hC hl (inb_vp hin) dL_law_983 ?_
      refine r_aload_n hC dL_law_984 1 rfl ?_
      refine r_iload hC dL_law_985 5 rfl ?_
      refine r_iconst (v := 3) hC dL_law_987 rfl ?_
      refine r_iadd hC dL_law_988 ?_
      have hin := if_K hf
      have hf := if_V hf
      refine r_sld hC hl (inb_vp hin) dL_law_989 ?_
      refine r_callVI [] (fun r M1 h => c_X6_note (cx_st hC) hz hZ (sc (Int32.toNatClampNeg (v4 + 1))) (sc (Int32.toNatClampNeg (v4 + 2))) (sc (Int32.toNatClampNeg (v4 + 3))) _  r M1 h) hf cs_L_150 hC (z_1 hZ 27 (by decide) rfl) (q0 := (RX6, TX6, 19)) rfl rfl [.int (sc (Int32.toNatClampNeg (v4 + 1))), .int (sc (Int32.toNatClampNeg (v4 + 2))), .int (sc (Int32.toNatClampNeg (v4 + 3)))] rfl rfl rfl (by decide) (by decide) (Nat.le_of_ble_eq_true rfl) (by omega) (by omega) dL_law_990 (fun x111 M112 hf => ?_)
      refine r_istore (L' := [(6, .int x111), (5, .int x109), (0, .ref b), (1, .ref (Z.1 0)), (2, .ref (Z.1 27)), (3, .ref (Z.1 43)), (4, .int v4)]) hC dL_law_993 (by decide) rfl ?_
      refine r_aload_n hC dL_law_995 4 rfl ?_
      refine r_callVI [] (fun r M1 h => c_X6_thrown (cx_st hC) hz hZ  _  r M1 h) hf cs_L_99 hC (z_1 hZ 27 (by decide) rfl) (q0 := (RX6, TX6, 19)) rfl rfl [] rfl rfl rfl (by decide) (by decide) (Nat.le_of_ble_eq_true rfl) (by omega) (by omega) dL_law_996 (fun x113 M114 hf => ?_)
      refine r_iload hC dL_law_999 1 rfl ?_
      refine r_icmp_eq 1006 hC dL_law_1001 (by decide) (fun h => ?_) (fun h => ?_)
      · have hf := if_T hf h
        refine r_iload hC dL_law_1006 1 rfl ?_
        refine r_if_ne 1023 hC dL_law_1008 (by decide) (fun h => ?_) (fun h => ?_)
        · have hf := if_F hf h
          refine r_goto 1704 hC dL_law_1023 (by decide) ?_
          refine r_iinc (v := v4 + 4) (L' := [(4, .int (v4 + 4)), (6, .int x111), (5, .int x109), (0, .ref b), (1, .ref (Z.1 0)), (2, .ref (Z.1 27)), (3, .ref (Z.1 43))]) hC dL_law_1704 6 rfl rfl (by decide) rfl ?_
          refine r_goto 23 hC dL_law_1707 (by decide) ?_
          refine r_L [3, 4, 5, 6, 0] rfl ?_
          exact hkk _ _ (by omega) (by omega) _ _ hf
        · have hf := if_T hf h
          refine r_aload_n hC dL_law_1011 5 rfl ?_
          refine r_iconst (v := 0) hC dL_law_1012 rfl ?_
          refine r_lald hC (z_1 hZ 43 (by decide) rfl) (inb_vp (by decide)) dL_law_1013 ?_
          refine r_iload hC dL_law_1014 0 rfl ?_
          refine r_i2l hC dL_law_1016 ?_
          refine r_lcmp hC dL_law_1017 ?_
          refine r_if_eq 1023 hC dL_law_1018 (by decide) (fun h => ?_) (fun h => ?_)
          · have hf := if_T hf h
            refine r_goto 1704 hC dL_law_1023 (by decide) ?_
            refine r_iinc (v := v4 + 4) (L' := [(4, .int (v4 + 4)), (6, .int x111), (5, .int x109), (0, .ref b), (1, .ref (Z.1 0)), (2, .ref (Z.1 27)), (3, .ref (Z.1 43))]) hC dL_law_1704 6 rfl rfl (by decide) rfl ?_
            refine r_goto 23 hC dL_law_1707 (by decide) ?_
            refine r_L [3, 4, 5, 6, 0] rfl ?_
            exact hkk _ _ (by omega) (by omega) _ _ hf
          · have hf := if_F hf h
            refine r_iconst (v := 0) hC dL_law_1021 rfl ?_
            cases hf
      · have hf := if_F hf h
        refine r_iconst (v := 0) hC dL_law_1004 rfl ?_
        cases hf
    have hf := if_F hf e14
    by_cases e15 : ((sc (Int32.toNatClampNeg v4)) &&& 31) = 15
    · have hf := if_T hf e15
      refine r_swIn (c := 15) (tgt := 1026) hC dL_law_39 e15 (by decide) (by decide) rfl (by decide) ?_
      refine r_aload_n hC dL_law_1026 1 rfl ?_
      refine r_aload_n hC dL_law_1027 0 rfl ?_
      refine r_iload hC dL_law_1028 4 rfl ?_
      refine r_iconst (v := 1) hC dL_law_1030 rfl ?_
      refine r_iadd hC dL_law_1031 ?_
      have hin := if_K hf
      have hf := if_V hf
      refine r_sld hC hl (inb_vp hin) dL_law_1032 ?_
      refine r_aload_n hC dL_law_1033 0 rfl ?_
      refine r_iload hC dL_law_1034 4 rfl ?_
      refine r_iconst (v := 2) hC dL_law_1036 rfl ?_
      refine r_iadd hC dL_law_1037 ?_
      have hin := if_K hf
      have hf := if_V hf
      refine r_sld hC hl (inb_vp hin) dL_law_1038 ?_
      refine r_aload_n hC dL_law_1039 0 rfl ?_
      refine r_iload hC dL_law_1040 4 rfl ?_
      refine r_iconst (v := 3) hC dL_law_1042 rfl ?_
      refine r_iadd hC dL_law_1043 ?_
      have hin := if_K hf
      have hf := if_V hf
      refine r_sld hC hl (inb_vp hin) dL_law_1044 ?_
      refine r_aload_n hC dL_law_1045 3 rfl ?_
      refine r_wcall [] (fun r M1 h => c_L_hand (cx_st hC) hz hZ (sc (Int32.toNatClampNeg (v4 + 1))) (sc (Int32.toNatClampNeg (v4 + 2))) (sc (Int32.toNatClampNeg (v4 + 3))) _ r M1 h) hf cs_L_151 hC rfl rfl (by decide) (by decide) (Nat.le_of_ble_eq_true rfl) (by omega) (by omega) dL_law_1046 (fun x115 M116 hf => ?_)
      refine r_istore (L' := [(5, .int x115), (0, .ref b), (1, .ref (Z.1 0)), (2, .ref (Z.1 27)), (3, .ref (Z.1 43)), (4, .int v4)]) hC dL_law_1049 (by decide) rfl ?_
      refine r_aload_n hC dL_law_1051 3 rfl ?_
      refine r_aload_n hC dL_law_1052 1 rfl ?_
      refine r_iload hC dL_law_1053 5 rfl ?_
      refine r_iconst (v := 1) hC dL_law_1055 rfl ?_
      refine r_iadd hC dL_law_1056 ?_
      have hin := if_K hf
      have hf := if_V hf
      refine r_sld hC hl (inb_vp hin) dL_law_1057 ?_
      refine r_aload_n hC dL_law_1058 1 rfl ?_
      refine r_iload hC dL_law_1059 5 rfl ?_
      refine r_iconst (v := 2) hC dL_law_1061 rfl ?_
      refine r_iadd hC dL_law_1062 ?_
      have hin := if_K hf
      have hf := if_V hf
      refine r_sld hC hl (inb_vp hin) dL_law_1063 ?_
      refine r_aload_n hC dL_law_1064 1 rfl ?_
      refine r_iload hC dL_law_1065 5 rfl ?_
      refine r_iconst (v := 3) hC dL_law_1067 rfl ?_
      refine r_iadd hC dL_law_1068 ?_
      have hin := if_K hf
      have hf := if_V hf
      refine r_sld hC hl (inb_vp hin) dL_law_1069 ?_
      refine r_callVI [] (fun r M1 h => c_X6_hand (cx_st hC) hz hZ (sc (Int32.toNatClampNeg (v4 + 1))) (sc (Int32.toNatClampNeg (v4 + 2))) (sc (Int32.toNatClampNeg (v4 + 3))) _  r M1 h) hf cs_L_153 hC (z_1 hZ 27 (by decide) rfl) (q0 := (RX6, TX6, 19)) rfl rfl [.int (sc (Int32.toNatClampNeg (v4 + 1))), .int (sc (Int32.toNatClampNeg (v4 + 2))), .int (sc (Int32.toNatClampNeg (v4 + 3)))] rfl rfl rfl (by decide) (by decide) (Nat.le_of_ble_eq_true rfl) (by omega) (by omega) dL_law_1070 (fun x117 M118 hf => ?_)
      refine r_istore (L' := [(6, .int x117), (5, .int x115), (0, .ref b), (1, .ref (Z.1 0)), (2, .ref (Z.1 27)), (3, .ref (Z.1 43)), (4, .int v4)]) hC dL_law_1073 (by decide) rfl ?_
      refine r_aload_n hC dL_law_1075 4 rfl ?_
      refine r_callVI [] (fun r M1 h => c_X6_thrown (cx_st hC) hz hZ  _  r M1 h) hf cs_L_99 hC (z_1 hZ 27 (by decide) rfl) (q0 := (RX6, TX6, 19)) rfl rfl [] rfl rfl rfl (by decide) (by decide) (Nat.le_of_ble_eq_true rfl) (by omega) (by omega) dL_law_1076 (fun x119 M120 hf => ?_)
      refine r_iload hC dL_law_1079 1 rfl ?_
      refine r_icmp_eq 1086 hC dL_law_1081 (by decide) (fun h => ?_) (fun h => ?_)
      · have hf := if_T hf h
        refine r_iload hC dL_law_1086 1 rfl ?_
        refine r_if_ne 1103 hC dL_law_1088 (by decide) (fun h => ?_) (fun h => ?_)
        · have hf := if_F hf h
          refine r_goto 1704 hC dL_law_1103 (by decide) ?_
          refine r_iinc (v := v4 + 4) (L' := [(4, .int (v4 + 4)), (6, .int x117), (5, .int x115), (0, .ref b), (1, .ref (Z.1 0)), (2, .ref (Z.1 27)), (3, .ref (Z.1 43))]) hC dL_law_1704 6 rfl rfl (by decide) rfl ?_
          refine r_goto 23 hC dL_law_1707 (by decide) ?_
          refine r_L [3, 4, 5, 6, 0] rfl ?_
          exact hkk _ _ (by omega) (by omega) _ _ hf
        · have hf := if_T hf h
          refine r_aload_n hC dL_law_1091 5 rfl ?_
          refine r_iconst (v := 0) hC dL_law_1092 rfl ?_
          refine r_lald hC (z_1 hZ 43 (by decide) rfl) (inb_vp (by decide)) dL_law_1093 ?_
          refine r_iload hC dL_law_1094 0 rfl ?_
          refine r_i2l hC dL_law_1096 ?_
          refine r_lcmp hC dL_law_1097 ?_
          refine r_if_eq 1103 hC dL_law_1098 (by decide) (fun h => ?_) (fun h => ?_)
          · have hf := if_T hf h
            refine r_goto 1704 hC dL_law_1103 (by decide) ?_
            refine r_iinc (v := v4 + 4) (L' := [(4, .int (v4 + 4)), (6, .int x117), (5, .int x115), (0, .ref b), (1, .ref (Z.1 0)), (2, .ref (Z.1 27)), (3, .ref (Z.1 43))]) hC dL_law_1704 6 rfl rfl (by decide) rfl ?_
            refine r_goto 23 hC dL_law_1707 (by decide) ?_
            refine r_L [3, 4, 5, 6, 0] rfl ?_
            exact hkk _ _ (by omega) (by omega) _ _ hf
          · have hf := if_F hf h
            refine r_iconst (v := 0) hC dL_law_1101 rfl ?_
            cases hf
      · have hf := if_F hf h
        refine r_iconst (v := 0) hC dL_law_1084 rfl ?_
        cases hf
    have hf := if_F hf e15
    by_cases e16 : ((sc (Int32.toNatClampNeg v4)) &&& 31) = 16
    · have hf := if_T hf e16
      refine r_swIn (c := 16) (tgt := 1106) hC dL_law_39 e16 (by decide) (by decide) rfl (by decide) ?_
      refine r_aload_n hC dL_law_1106 1 rfl ?_
      refine r_aload_n hC dL_law_1107 0 rfl ?_
      refine r_iload hC dL_law_1108 4 rfl ?_
      refine r_iconst (v := 1) hC dL_law_1110 rfl ?_
      refine r_iadd hC dL_law_1111 ?_
      have hin := if_K hf
      have hf := if_V hf
      refine r_sld hC hl (inb_vp hin) dL_law_1112 ?_
      refine r_aload_n hC dL_law_1113 0 rfl ?_
      refine r_iload hC dL_law_1114 4 rfl ?_
      refine r_iconst (v := 2) hC dL_law_1116 rfl ?_
      refine r_iadd hC dL_law_1117 ?_
      have hin := if_K hf
      have hf := if_V hf
      refine r_sld hC hl (inb_vp hin) dL_law_1118 ?_
      refine r_aload_n hC dL_law_1119 3 rfl ?_
      refine r_wcall [] (fun r M1 h => c_L_beat (cx_st hC) hz hZ (sc (Int32.toNatClampNeg (v4 + 1))) (sc (Int32.toNatClampNeg (v4 + 2))) _ r M1 h) hf cs_L_154 hC rfl rfl (by decide) (by decide) (Nat.le_of_ble_eq_true rfl) (by omega) (by omega) dL_law_1120 (fun x121 M122 hf => ?_)
      refine r_istore (L' := [(5, .int x121), (0, .ref b), (1, .ref (Z.1 0)), (2, .ref (Z.1 27)), (3, .ref (Z.1 43)), (4, .int v4)]) hC dL_law_1123 (by decide) rfl ?_
      refine r_aload_n hC dL_law_1125 3 rfl ?_
      refine r_aload_n hC dL_law_1126 1 rfl ?_
      refine r_iload hC dL_law_1127 5 rfl ?_
      refine r_iconst (v := 1) hC dL_law_1129 rfl ?_
      refine r_iadd hC dL_law_1130 ?_
      have hin := if_K hf
      have hf := if_V hf
      refine r_sld hC hl (inb_vp hin) dL_law_1131 ?_
      refine r_aload_n hC dL_law_1132 1 rfl ?_
      refine r_iload hC dL_law_1133 5 rfl ?_
      refine r_iconst (v := 2) hC dL_law_1135 rfl ?_
      refine r_iadd hC dL_law_1136 ?_
      have hin := if_K hf
      have hf := if_V hf
      refine r_sld hC hl (inb_vp hin) dL_law_1137 ?_
      refine r_callVI [] (fun r M1 h => c_X6_beat (cx_st hC) hz hZ (sc (Int32.toNatClampNeg (v4 + 1))) (sc (Int32.toNatClampNeg (v4 + 2))) _  r M1 h) hf cs_L_156 hC (z_1 hZ 27 (by decide) rfl) (q0 := (RX6, TX6, 19)) rfl rfl [.int (sc (Int32.toNatClampNeg (v4 + 1))), .int (sc (Int32.toNatClampNeg (v4 + 2)))] rfl rfl rfl (by decide) (by decide) (Nat.le_of_ble_eq_true rfl) (by omega) (by omega) dL_law_1138 (fun x123 M124 hf => ?_)
      refine r_istore (L' := [(6, .int x123), (5, .int x121), (0, .ref b), (1, .ref (Z.1 0)), (2, .ref (Z.1 27)), (3, .ref (Z.1 43)), (4, .int v4)]) hC dL_law_1141 (by decide) rfl ?_
      refine r_aload_n hC dL_law_1143 4 rfl ?_
      refine r_callVI [] (fun r M1 h => c_X6_thrown (cx_st hC) hz hZ  _  r M1 h) hf cs_L_99 hC (z_1 hZ 27 (by decide) rfl) (q0 := (RX6, TX6, 19)) rfl rfl [] rfl rfl rfl (by decide) (by decide) (Nat.le_of_ble_eq_true rfl) (by omega) (by omega) dL_law_1144 (fun x125 M126 hf => ?_)
      refine r_iload hC dL_law_1147 1 rfl ?_
      refine r_icmp_eq 1154 hC dL_law_1149 (by decide) (fun h => ?_) (fun h => ?_)
      · have hf := if_T hf h
        refine r_iload hC dL_law_1154 1 rfl ?_
        refine r_if_ne 1171 hC dL_law_1156 (by decide) (fun h => ?_) (fun h => ?_)
        · have hf := if_F hf h
          refine r_goto 1704 hC dL_law_1171 (by decide) ?_
          refine r_iinc (v := v4 + 4) (L' := [(4, .int (v4 + 4)), (6, .int x123), (5, .int x121), (0, .ref b), (1, .ref (Z.1 0)), (2, .ref (Z.1 27)), (3, .ref (Z.1 43))]) hC dL_law_1704 6 rfl rfl (by decide) rfl ?_
          refine r_goto 23 hC dL_law_1707 (by decide) ?_
          refine r_L [3, 4, 5, 6, 0] rfl ?_
          exact hkk _ _ (by omega) (by omega) _ _ hf
        · have hf := if_T hf h
          refine r_aload_n hC dL_law_1159 5 rfl ?_
          refine r_iconst (v := 0) hC dL_law_1160 rfl ?_
          refine r_lald hC (z_1 hZ 43 (by decide) rfl) (inb_vp (by decide)) dL_law_1161 ?_
          refine r_iload hC dL_law_1162 0 rfl ?_
          refine r_i2l hC dL_law_1164 ?_
          refine r_lcmp hC dL_law_1165 ?_
          refine r_if_eq 1171 hC dL_law_1166 (by decide) (fun h => ?_) (fun h => ?_)
          · have hf := if_T hf h
            refine r_goto 1704 hC dL_law_1171 (by decide) ?_
            refine r_iinc (v := v4 + 4) (L' := [(4, .int (v4 + 4)), (6, .int x123), (5, .int x121), (0, .ref b), (1, .ref (Z.1 0)), (2, .ref (Z.1 27)), (3, .ref (Z.1 43))]) hC dL_law_1704 6 rfl rfl (by decide) rfl ?_
            refine r_goto 23 hC dL_law_1707 (by decide) ?_
            refine r_L [3, 4, 5, 6, 0] rfl ?_
            exact hkk _ _ (by omega) (by omega) _ _ hf
          · have hf := if_F hf h
            refine r_iconst (v := 0) hC dL_law_1169 rfl ?_
            cases hf
      · have hf := if_F hf h
        refine r_iconst (v := 0) hC dL_law_1152 rfl ?_
        cases hf
    have hf := if_F hf e16
    by_cases e17 : ((sc (Int32.toNatClampNeg v4)) &&& 31) = 17
    · have hf := if_T hf e17
      refine r_swIn (c := 17) (tgt := 1174) hC dL_law_39 e17 (by decide) (by decide) rfl (by decide) ?_
      refine r_aload_n hC dL_law_1174 1 rfl ?_
      refine r_aload_n hC dL_law_1175 0 rfl ?_
      refine r_iload hC dL_law_1176 4 rfl ?_
      refine r_iconst (v := 1) hC dL_law_1178 rfl ?_
      refine r_iadd hC dL_law_1179 ?_
      have hin := if_K hf
      have hf := if_V hf
      refine r_sld hC hl (inb_vp hin) dL_law_1180 ?_
      refine r_aload_n hC dL_law_1181 3 rfl ?_
      refine r_wcall [] (fun r M1 h => c_L_whole (cx_st hC) hz hZ (sc (Int32.toNatClampNeg (v4 + 1))) _ r M1 h) hf cs_L_157 hC rfl rfl (by decide) (by decide) (Nat.le_of_ble_eq_true rfl) (by omega) (by omega) dL_law_1182 (fun x127 M128 hf => ?_)
      refine r_istore (L' := [(5, .int x127), (0, .ref b), (1, .ref (Z.1 0)), (2, .ref (Z.1 27)), (3, .ref (Z.1 43)), (4, .int v4)]) hC dL_law_1185 (by decide) rfl ?_
      refine r_aload_n hC dL_law_1187 3 rfl ?_
      refine r_aload_n hC dL_law_1188 1 rfl ?_
      refine r_iload hC dL_law_1189 5 rfl ?_
      refine r_iconst (v := 1) hC dL_law_1191 rfl ?_
      refine r_iadd hC dL_law_1192 ?_
      have hin := if_K hf
      have hf := if_V hf
      refine r_sld hC hl (inb_vp hin) dL_law_1193 ?_
      refine r_callVI [] (fun r M1 h => c_X6_whole (cx_st hC) hz hZ (sc (Int32.toNatClampNeg (v4 + 1))) _  r M1 h) hf cs_L_159 hC (z_1 hZ 27 (by decide) rfl) (q0 := (RX6, TX6, 19)) rfl rfl [.int (sc (Int32.toNatClampNeg (v4 + 1)))] rfl rfl rfl (by decide) (by decide) (Nat.le_of_ble_eq_true rfl) (by omega) (by omega) dL_law_1194 (fun x129 M130 hf => ?_)
      refine r_istore (L' := [(6, .int x129), (5, .int x127), (0, .ref b), (1, .ref (Z.1 0)), (2, .ref (Z.1 27)), (3, .ref (Z.1 43)), (4, .int v4)]) hC dL_law_1197 (by decide) rfl ?_
      refine r_aload_n hC dL_law_1199 4 rfl ?_
      refine r_callVI [] (fun r M1 h => c_X6_thrown (cx_st hC) hz hZ  _  r M1 h) hf cs_L_99 hC (z_1 hZ 27 (by decide) rfl) (q0 := (RX6, TX6, 19)) rfl rfl [] rfl rfl rfl (by decide) (by decide) (Nat.le_of_ble_eq_true rfl) (by omega) (by omega) dL_law_1200 (fun x131 M132 hf => ?_)
      refine r_iload hC dL_law_1203 1 rfl ?_
      refine r_icmp_eq 1210 hC dL_law_1205 (by decide) (fun h => ?_) (fun h => ?_)
      · have hf := if_T hf h
        refine r_iload hC dL_law_1210 1 rfl ?_
        refine r_if_ne 1227 hC dL_law_1212 (by decide) (fun h => ?_) (fun h => ?_)
        · have hf := if_F hf h
          refine r_goto 1704 hC dL_law_1227 (by decide) ?_
          refine r_iinc (v := v4 + 4) (L' := [(4, .int (v4 + 4)), (6, .int x129), (5, .int x127), (0, .ref b), (1, .ref (Z.1 0)), (2, .ref (Z.1 27)), (3, .ref (Z.1 43))]) hC dL_law_1704 6 rfl rfl (by decide) rfl ?_
          refine r_goto 23 hC dL_law_1707 (by decide) ?_
          refine r_L [3, 4, 5, 6, 0] rfl ?_
          exact hkk _ _ (by omega) (by omega) _ _ hf
        · have hf := if_T hf h
          refine r_aload_n hC dL_law_1215 5 rfl ?_
          refine r_iconst (v := 0) hC dL_law_1216 rfl ?_
          refine r_lald hC (z_1 hZ 43 (by decide) rfl) (inb_vp (by decide)) dL_law_1217 ?_
          refine r_iload hC dL_law_1218 0 rfl ?_
          refine r_i2l hC dL_law_1220 ?_
          refine r_lcmp hC dL_law_1221 ?_
          refine r_if_eq 1227 hC dL_law_1222 (by decide) (fun h => ?_) (fun h => ?_)
          · have hf := if_T hf h
            refine r_goto 1704 hC dL_law_1227 (by decide) ?_
            refine r_iinc (v := v4 + 4) (L' := [(4, .int (v4 + 4)), (6, .int x129), (5, .int x127), (0, .ref b), (1, .ref (Z.1 0)), (2, .ref (Z.1 27)), (3, .ref (Z.1 43))]) hC dL_law_1704 6 rfl rfl (by decide) rfl ?_
            refine r_goto 23 hC dL_law_1707 (by decide) ?_
            refine r_L [3, 4, 5, 6, 0] rfl ?_
            exact hkk _ _ (by omega) (by omega) _ _ hf
          · have hf := if_F hf h
            refine r_iconst (v := 0) hC dL_law_1225 rfl ?_
            cases hf
      · have hf := if_F hf h
        refine r_iconst (v := 0) hC dL_law_1208 rfl ?_
        cases hf
    have hf := if_F hf e17
    by_cases e18 : ((sc (Int32.toNatClampNeg v4)) &&& 31) = 18
    · have hf := if_T hf e18
      refine r_swIn (c := 18) (tgt := 1230) hC dL_law_39 e18 (by decide) (by decide) rfl (by decide) ?_
      refine r_aload_n hC dL_law_1230 1 rfl ?_
      refine r_aload_n hC dL_law_1231 0 rfl ?_
      refine r_iload hC dL_law_1232 4 rfl ?_
      refine r_iconst (v := 1) hC dL_law_1234 rfl ?_
      refine r_iadd hC dL_law_1235 ?_
      have hin := if_K hf
      have hf := if_V hf
      refine r_sld hC hl (inb_vp hin) dL_law_1236 ?_
      refine r_aload_n hC dL_law_1237 0 rfl ?_
      refine r_iload hC dL_law_1238 4 rfl ?_
      refine r_iconst (v := 2) hC dL_law_1240 rfl ?_
      refine r_iadd hC dL_law_1241 ?_
      have hin := if_K hf
      have hf := if_V hf
      refine r_sld hC hl (inb_vp hin) dL_law_1242 ?_
      refine r_aload_n hC dL_law_1243 0 rfl ?_
      refine r_iload hC dL_law_1244 4 rfl ?_
      refine r_iconst (v := 3) hC dL_law_1246 rfl ?_
      refine r_iadd hC dL_law_1247 ?_
      have hin := if_K hf
      have hf := if_V hf
      refine r_sld hC hl (inb_vp hin) dL_law_1248 ?_
      refine r_aload_n hC dL_law_1249 3 rfl ?_
      refine r_wcall [] (fun r M1 h => c_L_whatIf (cx_st hC) hz hZ (sc (Int32.toNatClampNeg (v4 + 1))) (sc (Int32.toNatClampNeg (v4 + 2))) (sc (Int32.toNatClampNeg (v4 + 3))) _ r M1 h) hf cs_L_160 hC rfl rfl (by decide) (by decide) (Nat.le_of_ble_eq_true rfl) (by omega) (by omega) dL_law_1250 (fun x133 M134 hf => ?_)
      refine r_istore (L' := [(5, .int x133), (0, .ref b), (1, .ref (Z.1 0)), (2, .ref (Z.1 27)), (3, .ref (Z.1 43)), (4, .int v4)]) hC dL_law_1253 (by decide) rfl ?_
      refine r_aload_n hC dL_law_1255 3 rfl ?_
      refine r_aload_n hC dL_law_1256 1 rfl ?_
      refine r_iload hC dL_law_1257 5 rfl ?_
      refine r_iconst (v := 1) hC dL_law_1259 rfl ?_
      refine r_iadd hC dL_law_1260 ?_
      have hin := if_K hf
      have hf := if_V hf
      refine r_sld hC hl (inb_vp hin) dL_law_1261 ?_
      refine r_aload_n hC dL_law_1262 1 rfl ?_
      refine r_iload hC dL_law_1263 5 rfl ?_
      refine r_iconst (v := 2) hC dL_law_1265 rfl ?_
      refine r_iadd hC dL_law_1266 ?_
      have hin := if_K hf
      have hf := if_V hf
      refine r_sld hC hl (inb_vp hin) dL_law_1267 ?_
      refine r_aload_n hC dL_law_1268 1 rfl ?_
      refine r_iload hC dL_law_1269 5 rfl ?_
      refine r_iconst (v := 3) hC dL_law_1271 rfl ?_
      refine r_iadd hC dL_law_1272 ?_
      have hin := if_K hf
      have hf := if_V hf
      refine r_sld hC hl (inb_vp hin) dL_law_1273 ?_
      refine r_callVI [] (fun r M1 h => c_X6_whatIf (cx_st hC) hz hZ (sc (Int32.toNatClampNeg (v4 + 1))) (sc (Int32.toNatClampNeg (v4 + 2))) (sc (Int32.toNatClampNeg (v4 + 3))) _  r M1 h) hf cs_L_162 hC (z_1 hZ 27 (by decide) rfl) (q0 := (RX6, TX6, 19)) rfl rfl [.int (sc (Int32.toNatClampNeg (v4 + 1))), .int (sc (Int32.toNatClampNeg (v4 + 2))), .int (sc (Int32.toNatClampNeg (v4 + 3)))] rfl rfl rfl (by decide) (by decide) (Nat.le_of_ble_eq_true rfl) (by omega) (by omega) dL_law_1274 (fun x135 M136 hf => ?_)
      refine r_istore (L' := [(6, .int x135), (5, .int x133), (0, .ref b), (1, .ref (Z.1 0)), (2, .ref (Z.1 27)), (3, .ref (Z.1 43)), (4, .int v4)]) hC dL_law_1277 (by decide) rfl ?_
      refine r_aload_n hC dL_law_1279 4 rfl ?_
      refine r_callVI [] (fun r M1 h => c_X6_thrown (cx_st hC) hz hZ  _  r M1 h) hf cs_L_99 hC (z_1 hZ 27 (by decide) rfl) (q0 := (RX6, TX6, 19)) rfl rfl [] rfl rfl rfl (by decide) (by decide) (Nat.le_of_ble_eq_true rfl) (by omega) (by omega) dL_law_1280 (fun x137 M138 hf => ?_)
      refine r_iload hC dL_law_1283 1 rfl ?_
      refine r_icmp_eq 1290 hC dL_law_1285 (by decide) (fun h => ?_) (fun h => ?_)
      · have hf := if_T hf h
        refine r_iload hC dL_law_1290 1 rfl ?_
        refine r_if_ne 1307 hC dL_law_1292 (by decide) (fun h => ?_) (fun h => ?_)
        · have hf := if_F hf h
          refine r_goto 1704 hC dL_law_1307 (by decide) ?_
          refine r_iinc (v := v4 + 4) (L' := [(4, .int (v4 + 4)), (6, .int x135), (5, .int x133), (0, .ref b), (1, .ref (Z.1 0)), (2, .ref (Z.1 27)), (3, .ref (Z.1 43))]) hC dL_law_1704 6 rfl rfl (by decide) rfl ?_
          refine r_goto 23 hC dL_law_1707 (by decide) ?_
          refine r_L [3, 4, 5, 6, 0] rfl ?_
          exact hkk _ _ (by omega) (by omega) _ _ hf
        · have hf := if_T hf h
          refine r_aload_n hC dL_law_1295 5 rfl ?_
          refine r_iconst (v := 0) hC dL_law_1296 rfl ?_
          refine r_lald hC (z_1 hZ 43 (by decide) rfl) (inb_vp (by decide)) dL_law_1297 ?_
          refine r_iload hC dL_law_1298 0 rfl ?_
          refine r_i2l hC dL_law_1300 ?_
          refine r_lcmp hC dL_law_1301 ?_
          refine r_if_eq 1307 hC dL_law_1302 (by decide) (fun h => ?_) (fun h => ?_)
          · have hf := if_T hf h
            refine r_goto 1704 hC dL_law_1307 (by decide) ?_
            refine r_iinc (v := v4 + 4) (L' := [(4, .int (v4 + 4)), (6, .int x135), (5, .int x133), (0, .ref b), (1, .ref (Z.1 0)), (2, .ref (Z.1 27)), (3, .ref (Z.1 43))]) hC dL_law_1704 6 rfl rfl (by decide) rfl ?_
            refine r_goto 23 hC dL_law_1707 (by decide) ?_
            refine r_L [3, 4, 5, 6, 0] rfl ?_
            exact hkk _ _ (by omega) (by omega) _ _ hf
          · have hf := if_F hf h
            refine r_iconst (v := 0) hC dL_law_1305 rfl ?_
            cases hf
      · have hf := if_F hf h
        refine r_iconst (v := 0) hC dL_law_1288 rfl ?_
        cases hf
    have hf := if_F hf e18
    by_cases e19 : ((sc (Int32.toNatClampNeg v4)) &&& 31) = 19
    · have hf := if_T hf e19
      refine r_swIn (c := 19) (tgt := 1310) hC dL_law_39 e19 (by decide) (by decide) rfl (by decide) ?_
      refine r_aload_n hC dL_law_1310 1 rfl ?_
      refine r_callVI [] (fun r M1 h => c_X5_smallestSpan (cx_st hC) hz hZ  _  r M1 h) hf cs_L_163 hC (z_1 hZ 0 (by decide) rfl) (q0 := (RX5, TX5, 7)) rfl rfl [] rfl rfl rfl (by decide) (by decide) (Nat.le_of_ble_eq_true rfl) (by omega) (by omega) dL_law_1311 (fun x139 M140 hf => ?_)
      refine r_aload_n hC dL_law_1314 2 rfl ?_
      refine r_callVI [.int x139] (fun r M1 h => c_X6_smallestSpan (cx_st hC) hz hZ  _  r M1 h) hf cs_L_166 hC (z_1 hZ 27 (by decide) rfl) (q0 := (RX6, TX6, 19)) rfl rfl [] rfl rfl rfl (by decide) (by decide) (Nat.le_of_ble_eq_true rfl) (by omega) (by omega) dL_law_1315 (fun x141 M142 hf => ?_)
      refine r_icmp_eq 1704 hC dL_law_1318 (by decide) (fun h => ?_) (fun h => ?_)
      · have hf := if_T hf h
        refine r_iinc (v := v4 + 4) (L' := [(4, .int (v4 + 4)), (0, .ref b), (1, .ref (Z.1 0)), (2, .ref (Z.1 27)), (3, .ref (Z.1 43))]) hC dL_law_1704 4 rfl rfl (by decide) rfl ?_
        refine r_goto 23 hC dL_law_1707 (by decide) ?_
        refine r_L [1, 2, 3, 4, 0] rfl ?_
        exact hkk _ _ (by omega) (by omega) _ _ hf
      · have hf := if_F hf h
        refine r_iconst (v := 0) hC dL_law_1321 rfl ?_
        cases hf
    have hf := if_F hf e19
    by_cases e20 : ((sc (Int32.toNatClampNeg v4)) &&& 31) = 20
    · have hf := if_T hf e20
      refine r_swIn (c := 20) (tgt := 1323) hC dL_law_39 e20 (by decide) (by decide) rfl (by decide) ?_
      refine r_aload_n hC dL_law_1323 1 rfl ?_
      refine r_callVI [] (fun r M1 h => c_X5_dearest (cx_st hC) hz hZ  _  r M1 h) hf cs_L_167 hC (z_1 hZ 0 (by decide) rfl) (q0 := (RX5, TX5, 7)) rfl rfl [] rfl rfl rfl (by decide) (by decide) (Nat.le_of_ble_eq_true rfl) (by omega) (by omega) dL_law_1324 (fun x143 M144 hf => ?_)
      refine r_aload_n hC dL_law_1327 2 rfl ?_
      refine r_callVI [.int x143] (fun r M1 h => c_X6_dearest (cx_st hC) hz hZ  _  r M1 h) hf cs_L_170 hC (z_1 hZ 27 (by decide) rfl) (q0 := (RX6, TX6, 19)) rfl rfl [] rfl rfl rfl (by decide) (by decide) (Nat.le_of_ble_eq_true rfl) (by omega) (by omega) dL_law_1328 (fun x145 M146 hf => ?_)
      refine r_icmp_eq 1704 hC dL_law_1331 (by decide) (fun h => ?_) (fun h => ?_)
      · have hf := if_T hf h
        refine r_iinc (v := v4 + 4) (L' := [(4, .int (v4 + 4)), (0, .ref b), (1, .ref (Z.1 0)), (2, .ref (Z.1 27)), (3, .ref (Z.1 43))]) hC dL_law_1704 4 rfl rfl (by decide) rfl ?_
        refine r_goto 23 hC dL_law_1707 (by decide) ?_
        refine r_L [1, 2, 3, 4, 0] rfl ?_
        exact hkk _ _ (by omega) (by omega) _ _ hf
      · have hf := if_F hf h
        refine r_iconst (v := 0) hC dL_law_1334 rfl ?_
        cases hf
    have hf := if_F hf e20
    by_cases e21 : ((sc (Int32.toNatClampNeg v4)) &&& 31) = 21
    · have hf := if_T hf e21
      refine r_swIn (c := 21) (tgt := 1336) hC dL_law_39 e21 (by decide) (by decide) rfl (by decide) ?_
      refine r_aload_n hC dL_law_1336 1 rfl ?_
      refine r_aload_n hC dL_law_1337 0 rfl ?_
      refine r_iload hC dL_law_1338 4 rfl ?_
      refine r_iconst (v := 1) hC dL_law_1340 rfl ?_
      refine r_iadd hC dL_law_1341 ?_
      have hin := if_K hf
      have hf := if_V hf
      refine r_sld hC hl (inb_vp hin) dL_law_1342 ?_
      refine r_aload_n hC dL_law_1343 3 rfl ?_
      refine r_wcall [] (fun r M1 h => c_L_bestTransposition (cx_st hC) hz hZ (sc (Int32.toNatClampNeg (v4 + 1))) _ r M1 h) hf cs_L_171 hC rfl rfl (by decide) (by decide) (Nat.le_of_ble_eq_true rfl) (by omega) (by omega) dL_law_1344 (fun x147 M148 hf => ?_)
      refine r_istore (L' := [(5, .int x147), (0, .ref b), (1, .ref (Z.1 0)), (2, .ref (Z.1 27)), (3, .ref (Z.1 43)), (4, .int v4)]) hC dL_law_1347 (by decide) rfl ?_
      refine r_aload_n hC dL_law_1349 3 rfl ?_
      refine r_aload_n hC dL_law_1350 1 rfl ?_
      refine r_iload hC dL_law_1351 5 rfl ?_
      refine r_iconst (v := 1) hC dL_law_1353 rfl ?_
      refine r_iadd hC dL_law_1354 ?_
      have hin := if_K hf
      have hf := if_V hf
      refine r_sld hC hl (inb_vp hin) dL_law_1355 ?_
      refine r_callVI [] (fun r M1 h => c_X6_bestTransposition (cx_st hC) hz hZ (sc (Int32.toNatClampNeg (v4 + 1))) _  r M1 h) hf cs_L_173 hC (z_1 hZ 27 (by decide) rfl) (q0 := (RX6, TX6, 19)) rfl rfl [.int (sc (Int32.toNatClampNeg (v4 + 1)))] rfl rfl rfl (by decide) (by decide) (Nat.le_of_ble_eq_true rfl) (by omega) (by omega) dL_law_1356 (fun x149 M150 hf => ?_)
      refine r_istore (L' := [(6, .int x149), (5, .int x147), (0, .ref b), (1, .ref (Z.1 0)), (2, .ref (Z.1 27)), (3, .ref (Z.1 43)), (4, .int v4)]) hC dL_law_1359 (by decide) rfl ?_
      refine r_aload_n hC dL_law_1361 4 rfl ?_
      refine r_callVI [] (fun r M1 h => c_X6_thrown (cx_st hC) hz hZ  _  r M1 h) hf cs_L_99 hC (z_1 hZ 27 (by decide) rfl) (q0 := (RX6, TX6, 19)) rfl rfl [] rfl rfl rfl (by decide) (by decide) (Nat.le_of_ble_eq_true rfl) (by omega) (by omega) dL_law_1362 (fun x151 M152 hf => ?_)
      refine r_iload hC dL_law_1365 1 rfl ?_
      refine r_icmp_eq 1372 hC dL_law_1367 (by decide) (fun h => ?_) (fun h => ?_)
      · have hf := if_T hf h
        refine r_iload hC dL_law_1372 1 rfl ?_
        refine r_if_ne 1389 hC dL_law_1374 (by decide) (fun h => ?_) (fun h => ?_)
        · have hf := if_F hf h
          refine r_goto 1704 hC dL_law_1389 (by decide) ?_
          refine r_iinc (v := v4 + 4) (L' := [(4, .int (v4 + 4)), (6, .int x149), (5, .int x147), (0, .ref b), (1, .ref (Z.1 0)), (2, .ref (Z.1 27)), (3, .ref (Z.1 43))]) hC dL_law_1704 6 rfl rfl (by decide) rfl ?_
          refine r_goto 23 hC dL_law_1707 (by decide) ?_
          refine r_L [3, 4, 5, 6, 0] rfl ?_
          exact hkk _ _ (by omega) (by omega) _ _ hf
        · have hf := if_T hf h
          refine r_aload_n hC dL_law_1377 5 rfl ?_
          refine r_iconst (v := 0) hC dL_law_1378 rfl ?_
          refine r_lald hC (z_1 hZ 43 (by decide) rfl) (inb_vp (by decide)) dL_law_1379 ?_
          refine r_iload hC dL_law_1380 0 rfl ?_
          refine r_i2l hC dL_law_1382 ?_
          refine r_lcmp hC dL_law_1383 ?_
          refine r_if_eq 1389 hC dL_law_1384 (by decide) (fun h => ?_) (fun h => ?_)
          · have hf := if_T hf h
            refine r_goto 1704 hC dL_law_1389 (by decide) ?_
            refine r_iinc (v := v4 + 4) (L' := [(4, .int (v4 + 4)), (6, .int x149), (5, .int x147), (0, .ref b), (1, .ref (Z.1 0)), (2, .ref (Z.1 27)), (3, .ref (Z.1 43))]) hC dL_law_1704 6 rfl rfl (by decide) rfl ?_
            refine r_goto 23 hC dL_law_1707 (by decide) ?_
            refine r_L [3, 4, 5, 6, 0] rfl ?_
            exact hkk _ _ (by omega) (by omega) _ _ hf
          · have hf := if_F hf h
            refine r_iconst (v := 0) hC dL_law_1387 rfl ?_
            cases hf
      · have hf := if_F hf h
        refine r_iconst (v := 0) hC dL_law_1370 rfl ?_
        cases hf
    have hf := if_F hf e21
    by_cases e22 : ((sc (Int32.toNatClampNeg v4)) &&& 31) = 22
    · have hf := if_T hf e22
      refine r_swIn (c := 22) (tgt := 1392) hC dL_law_39 e22 (by decide) (by decide) rfl (by decide) ?_
      refine r_aload_n hC dL_law_1392 1 rfl ?_
      refine r_aload_n hC dL_law_1393 0 rfl ?_
      refine r_iload hC dL_law_1394 4 rfl ?_
      refine r_iconst (v := 1) hC dL_law_1396 rfl ?_
      refine r_iadd hC dL_law_1397 ?_
      have hin := if_K hf
      have hf := if_V hf
      refine r_sld hC hl (inb_vp hin) dL_law_1398 ?_
      refine r_aload_n hC dL_law_1399 0 rfl ?_
      refine r_iload hC dL_law_1400 4 rfl ?_
      refine r_iconst (v := 2) hC dL_law_1402 rfl ?_
      refine r_iadd hC dL_law_1403 ?_
      have hin := if_K hf
      have hf := if_V hf
      refine r_sld hC hl (inb_vp hin) dL_law_1404 ?_
      refine r_i2l hC dL_law_1405 ?_
      refine r_bipush (v := 32) hC dL_law_1406 rfl ?_
      refine r_lshl hC dL_law_1408 ?_
      refine r_aload_n hC dL_law_1409 0 rfl ?_
      refine r_iload hC dL_law_1410 4 rfl ?_
      refine r_iconst (v := 3) hC dL_law_1412 rfl ?_
      refine r_iadd hC dL_law_1413 ?_
      have hin := if_K hf
      have hf := if_V hf
      refine r_sld hC hl (inb_vp hin) dL_law_1414 ?_
      refine r_i2l hC dL_law_1415 ?_
      refine r_ldc2 (v := 4294967295) hC dL_law_1416 kw_L_174 ?_
      refine r_land hC dL_law_1419 ?_
      refine r_lor hC dL_law_1420 ?_
      refine r_aload_n hC dL_law_1421 3 rfl ?_
      refine r_wcall [] (fun r M1 h => c_L_runScript (cx_st hC) hz hZ (sc (Int32.toNatClampNeg (v4 + 1))) (((Int32.toInt64 (sc (Int32.toNatClampNeg (v4 + 2)))) <<< (Int32.toInt64 32 &&& 63)) ||| ((Int32.toInt64 (sc (Int32.toNatClampNeg (v4 + 3)))) &&& 4294967295)) _ r M1 h) hf cs_L_176 hC rfl rfl (by decide) (by decide) (Nat.le_of_ble_eq_true rfl) (by omega) (by omega) dL_law_1422 (fun x153 M154 hf => ?_)
      refine r_istore (L' := [(5, .int x153), (0, .ref b), (1, .ref (Z.1 0)), (2, .ref (Z.1 27)), (3, .ref (Z.1 43)), (4, .int v4)]) hC dL_law_1425 (by decide) rfl ?_
      refine r_aload_n hC dL_law_1427 3 rfl ?_
      refine r_aload_n hC dL_law_1428 1 rfl ?_
      refine r_iload hC dL_law_1429 5 rfl ?_
      refine r_iconst (v := 1) hC dL_law_1431 rfl ?_
      refine r_iadd hC dL_law_1432 ?_
      have hin := if_K hf
      have hf := if_V hf
      refine r_sld hC hl (inb_vp hin) dL_law_1433 ?_
      refine r_aload_n hC dL_law_1434 1 rfl ?_
      refine r_iload hC dL_law_1435 5 rfl ?_
      refine r_iconst (v := 2) hC dL_law_1437 rfl ?_
      refine r_iadd hC dL_law_1438 ?_
      have hin := if_K hf
      have hf := if_V hf
      refine r_sld hC hl (inb_vp hin) dL_law_1439 ?_
      refine r_i2l hC dL_law_1440 ?_
      refine r_bipush (v := 32) hC dL_law_1441 rfl ?_
      refine r_lshl hC dL_law_1443 ?_
      refine r_aload_n hC dL_law_1444 1 rfl ?_
      refine r_iload hC dL_law_1445 5 rfl ?_
      refine r_iconst (v := 3) hC dL_law_1447 rfl ?_
      refine r_iadd hC dL_law_1448 ?_
      have hin := if_K hf
      have hf := if_V hf
      refine r_sld hC hl (inb_vp hin) dL_law_1449 ?_
      refine r_i2l hC dL_law_1450 ?_
      refine r_ldc2 (v := 4294967295) hC dL_law_1451 kw_L_174 ?_
      refine r_land hC dL_law_1454 ?_
      refine r_lor hC dL_law_1455 ?_
      refine r_callVI [] (fun r M1 h => c_X6_runScript (cx_st hC) hz hZ (sc (Int32.toNatClampNeg (v4 + 1))) (((Int32.toInt64 (sc (Int32.toNatClampNeg (v4 + 2)))) <<< (Int32.toInt64 32 &&& 63)) ||| ((Int32.toInt64 (sc (Int32.toNatClampNeg (v4 + 3)))) &&& 4294967295)) _  r M1 h) hf cs_L_179 hC (z_1 hZ 27 (by decide) rfl) (q0 := (RX6, TX6, 19)) rfl rfl [.int (sc (Int32.toNatClampNeg (v4 + 1))), .long (((Int32.toInt64 (sc (Int32.toNatClampNeg (v4 + 2)))) <<< (Int32.toInt64 32 &&& 63)) ||| ((Int32.toInt64 (sc (Int32.toNatClampNeg (v4 + 3)))) &&& 4294967295))] rfl rfl rfl (by decide) (by decide) (Nat.le_of_ble_eq_true rfl) (by omega) (by omega) dL_law_1456 (fun x155 M156 hf => ?_)
      refine r_istore (L' := [(6, .int x155), (5, .int x153), (0, .ref b), (1, .ref (Z.1 0)), (2, .ref (Z.1 27)), (3, .ref (Z.1 43)), (4, .int v4)]) hC dL_law_1459 (by decide) rfl ?_
      refine r_aload_n hC dL_law_1461 4 rfl ?_
      refine r_callVI [] (fun r M1 h => c_X6_thrown (cx_st hC) hz hZ  _  r M1 h) hf cs_L_99 hC (z_1 hZ 27 (by decide) rfl) (q0 := (RX6, TX6, 19)) rfl rfl [] rfl rfl rfl (by decide) (by decide) (Nat.le_of_ble_eq_true rfl) (by omega) (by omega) dL_law_1462 (fun x157 M158 hf => ?_)
      refine r_iload hC dL_law_1465 1 rfl ?_
      refine r_icmp_eq 1472 hC dL_law_1467 (by decide) (fun h => ?_) (fun h => ?_)
      · have hf := if_T hf h
        refine r_iload hC dL_law_1472 1 rfl ?_
        refine r_if_ne 1489 hC dL_law_1474 (by decide) (fun h => ?_) (fun h => ?_)
        · have hf := if_F hf h
          refine r_goto 1704 hC dL_law_1489 (by decide) ?_
          refine r_iinc (v := v4 + 4) (L' := [(4, .int (v4 + 4)), (6, .int x155), (5, .int x153), (0, .ref b), (1, .ref (Z.1 0)), (2, .ref (Z.1 27)), (3, .ref (Z.1 43))]) hC dL_law_1704 6 rfl rfl (by decide) rfl ?_
          refine r_goto 23 hC dL_law_1707 (by decide) ?_
          refine r_L [3, 4, 5, 6, 0] rfl ?_
          exact hkk _ _ (by omega) (by omega) _ _ hf
        · have hf := if_T hf h
          refine r_aload_n hC dL_law_1477 5 rfl ?_
          refine r_iconst (v := 0) hC dL_law_1478 rfl ?_
          refine r_lald hC (z_1 hZ 43 (by decide) rfl) (inb_vp (by decide)) dL_law_1479 ?_
          refine r_iload hC dL_law_1480 0 rfl ?_
          refine r_i2l hC dL_law_1482 ?_
          refine r_lcmp hC dL_law_1483 ?_
          refine r_if_eq 1489 hC dL_law_1484 (by decide) (fun h => ?_) (fun h => ?_)
          · have hf := if_T hf h
            refine r_goto 1704 hC dL_law_1489 (by decide) ?_
            refine r_iinc (v := v4 + 4) (L' := [(4, .int (v4 + 4)), (6, .int x155), (5, .int x153), (0, .ref b), (1, .ref (Z.1 0)), (2, .ref (Z.1 27)), (3, .ref (Z.1 43))]) hC dL_law_1704 6 rfl rfl (by decide) rfl ?_
            refine r_goto 23 hC dL_law_1707 (by decide) ?_
            refine r_L [3, 4, 5, 6, 0] rfl ?_
            exact hkk _ _ (by omega) (by omega) _ _ hf
          · have hf := if_F hf h
            refine r_iconst (v := 0) hC dL_law_1487 rfl ?_
            cases hf
      · have hf := if_F hf h
        refine r_iconst (v := 0) hC dL_law_1470 rfl ?_
        cases hf
    have hf := if_F hf e22
    by_cases e23 : ((sc (Int32.toNatClampNeg v4)) &&& 31) = 23
    · have hf := if_T hf e23
      refine r_swIn (c := 23) (tgt := 1492) hC dL_law_39 e23 (by decide) (by decide) rfl (by decide) ?_
      refine r_aload_n hC dL_law_1492 1 rfl ?_
      refine r_aload_n hC dL_law_1493 0 rfl ?_
      refine r_iload hC dL_law_1494 4 rfl ?_
      refine r_iconst (v := 1) hC dL_law_1496 rfl ?_
      refine r_iadd hC dL_law_1497 ?_
      have hin := if_K hf
      have hf := if_V hf
      refine r_sld hC hl (inb_vp hin) dL_law_1498 ?_
      refine r_i2l hC dL_law_1499 ?_
      refine r_bipush (v := 32) hC dL_law_1500 rfl ?_
      refine r_lshl hC dL_law_1502 ?_
      refine r_aload_n hC dL_law_1503 0 rfl ?_
      refine r_iload hC dL_law_1504 4 rfl ?_
      refine r_iconst (v := 2) hC dL_law_1506 rfl ?_
      refine r_iadd hC dL_law_1507 ?_
      have hin := if_K hf
      have hf := if_V hf
      refine r_sld hC hl (inb_vp hin) dL_law_1508 ?_
      refine r_i2l hC dL_law_1509 ?_
      refine r_ldc2 (v := 4294967295) hC dL_law_1510 kw_L_174 ?_
      refine r_land hC dL_law_1513 ?_
      refine r_lor hC dL_law_1514 ?_
      refine r_aload_n hC dL_law_1515 0 rfl ?_
      refine r_iload hC dL_law_1516 4 rfl ?_
      refine r_iconst (v := 3) hC dL_law_1518 rfl ?_
      refine r_iadd hC dL_law_1519 ?_
      have hin := if_K hf
      have hf := if_V hf
      refine r_sld hC hl (inb_vp hin) dL_law_1520 ?_
      refine r_aload_n hC dL_law_1521 3 rfl ?_
      refine r_wcall [] (fun r M1 h => c_L_simulate (cx_st hC) hz hZ (((Int32.toInt64 (sc (Int32.toNatClampNeg (v4 + 1)))) <<< (Int32.toInt64 32 &&& 63)) ||| ((Int32.toInt64 (sc (Int32.toNatClampNeg (v4 + 2)))) &&& 4294967295)) (sc (Int32.toNatClampNeg (v4 + 3))) _ r M1 h) hf cs_L_180 hC rfl rfl (by decide) (by decide) (Nat.le_of_ble_eq_true rfl) (by omega) (by omega) dL_law_1522 (fun x159 M160 hf => ?_)
      refine r_istore (L' := [(5, .int x159), (0, .ref b), (1, .ref (Z.1 0)), (2, .ref (Z.1 27)), (3, .ref (Z.1 43)), (4, .int v4)]) hC dL_law_1525 (by decide) rfl ?_
      refine r_aload_n hC dL_law_1527 3 rfl ?_
      refine r_aload_n hC dL_law_1528 1 rfl ?_
      refine r_iload hC dL_law_1529 5 rfl ?_
      refine r_iconst (v := 1) hC dL_law_1531 rfl ?_
      refine r_iadd hC dL_law_1532 ?_
      have hin := if_K hf
      have hf := if_V hf
      refine r_sld hC hl (inb_vp hin) dL_law_1533 ?_
      refine r_i2l hC dL_law_1534 ?_
      refine r_bipush (v := 32) hC dL_law_1535 rfl ?_
      refine r_lshl hC dL_law_1537 ?_
      refine r_aload_n hC dL_law_1538 1 rfl ?_
      refine r_iload hC dL_law_1539 5 rfl ?_
      refine r_iconst (v := 2) hC dL_law_1541 rfl ?_
      refine r_iadd hC dL_law_1542 ?_
      have hin := if_K hf
      have hf := if_V hf
      refine r_sld hC hl (inb_vp hin) dL_law_1543 ?_
      refine r_i2l hC dL_law_1544 ?_
      refine r_ldc2 (v := 4294967295) hC dL_law_1545 kw_L_174 ?_
      refine r_land hC dL_law_1548 ?_
      refine r_lor hC dL_law_1549 ?_
      refine r_aload_n hC dL_law_1550 1 rfl ?_
      refine r_iload hC dL_law_1551 5 rfl ?_
      refine r_iconst (v := 3) hC dL_law_1553 rfl ?_
      refine r_iadd hC dL_law_1554 ?_
      have hin := if_K hf
      have hf := if_V hf
      refine r_sld hC hl (inb_vp hin) dL_law_1555 ?_
      refine r_callVI [] (fun r M1 h => c_X6_simulate (cx_st hC) hz hZ (((Int32.toInt64 (sc (Int32.toNatClampNeg (v4 + 1)))) <<< (Int32.toInt64 32 &&& 63)) ||| ((Int32.toInt64 (sc (Int32.toNatClampNeg (v4 + 2)))) &&& 4294967295)) (sc (Int32.toNatClampNeg (v4 + 3))) _  r M1 h) hf cs_L_183 hC (z_1 hZ 27 (by decide) rfl) (q0 := (RX6, TX6, 19)) rfl rfl [.long (((Int32.toInt64 (sc (Int32.toNatClampNeg (v4 + 1)))) <<< (Int32.toInt64 32 &&& 63)) ||| ((Int32.toInt64 (sc (Int32.toNatClampNeg (v4 + 2)))) &&& 4294967295)), .int (sc (Int32.toNatClampNeg (v4 + 3)))] rfl rfl rfl (by decide) (by decide) (Nat.le_of_ble_eq_true rfl) (by omega) (by omega) dL_law_1556 (fun x161 M162 hf => ?_)
      refine r_istore (L' := [(6, .int x161), (5, .int x159), (0, .ref b), (1, .ref (Z.1 0)), (2, .ref (Z.1 27)), (3, .ref (Z.1 43)), (4, .int v4)]) hC dL_law_1559 (by decide) rfl ?_
      refine r_aload_n hC dL_law_1561 4 rfl ?_
      refine r_callVI [] (fun r M1 h => c_X6_thrown (cx_st hC) hz hZ  _  r M1 h) hf cs_L_99 hC (z_1 hZ 27 (by decide) rfl) (q0 := (RX6, TX6, 19)) rfl rfl [] rfl rfl rfl (by decide) (by decide) (Nat.le_of_ble_eq_true rfl) (by omega) (by omega) dL_law_1562 (fun x163 M164 hf => ?_)
      refine r_iload hC dL_law_1565 1 rfl ?_
      refine r_icmp_eq 1572 hC dL_law_1567 (by decide) (fun h => ?_) (fun h => ?_)
      · have hf := if_T hf h
        refine r_iload hC dL_law_1572 1 rfl ?_
        refine r_if_ne 1589 hC dL_law_1574 (by decide) (fun h => ?_) (fun h => ?_)
        · have hf := if_F hf h
          refine r_goto 1704 hC dL_law_1589 (by decide) ?_
          refine r_iinc (v := v4 + 4) (L' := [(4, .int (v4 + 4)), (6, .int x161), (5, .int x159), (0, .ref b), (1, .ref (Z.1 0)), (2, .ref (Z.1 27)), (3, .ref (Z.1 43))]) hC dL_law_1704 6 rfl rfl (by decide) rfl ?_
          refine r_goto 23 hC dL_law_1707 (by decide) ?_
          refine r_L [3, 4, 5, 6, 0] rfl ?_
          exact hkk _ _ (by omega) (by omega) _ _ hf
        · have hf := if_T hf h
          refine r_aload_n hC dL_law_1577 5 rfl ?_
          refine r_iconst (v := 0) hC dL_law_1578 rfl ?_
          refine r_lald hC (z_1 hZ 43 (by decide) rfl) (inb_vp (by decide)) dL_law_1579 ?_
          refine r_iload hC dL_law_1580 0 rfl ?_
          refine r_i2l hC dL_law_1582 ?_
          refine r_lcmp hC dL_law_1583 ?_
          refine r_if_eq 1589 hC dL_law_1584 (by decide) (fun h => ?_) (fun h => ?_)
          · have hf := if_T hf h
            refine r_goto 1704 hC dL_law_1589 (by decide) ?_
            refine r_iinc (v := v4 + 4) (L' := [(4, .int (v4 + 4)), (6, .int x161), (5, .int x159), (0, .ref b), (1, .ref (Z.1 0)), (2, .ref (Z.1 27)), (3, .ref (Z.1 43))]) hC dL_law_1704 6 rfl rfl (by decide) rfl ?_
            refine r_goto 23 hC dL_law_1707 (by decide) ?_
            refine r_L [3, 4, 5, 6, 0] rfl ?_
            exact hkk _ _ (by omega) (by omega) _ _ hf
          · have hf := if_F hf h
            refine r_iconst (v := 0) hC dL_law_1587 rfl ?_
            cases hf
      · have hf := if_F hf h
        refine r_iconst (v := 0) hC dL_law_1570 rfl ?_
        cases hf
    have hf := if_F hf e23
    by_cases e24 : ((sc (Int32.toNatClampNeg v4)) &&& 31) = 24
    · have hf := if_T hf e24
      refine r_swIn (c := 24) (tgt := 1592) hC dL_law_39 e24 (by decide) (by decide) rfl (by decide) ?_
      refine r_aload_n hC dL_law_1592 1 rfl ?_
      refine r_aload_n hC dL_law_1593 0 rfl ?_
      refine r_iload hC dL_law_1594 4 rfl ?_
      refine r_iconst (v := 1) hC dL_law_1596 rfl ?_
      refine r_iadd hC dL_law_1597 ?_
      have hin := if_K hf
      have hf := if_V hf
      refine r_sld hC hl (inb_vp hin) dL_law_1598 ?_
      refine r_aload_n hC dL_law_1599 3 rfl ?_
      refine r_wcall [] (fun r M1 h => c_L_save (cx_st hC) hz hZ (sc (Int32.toNatClampNeg (v4 + 1))) _ r M1 h) hf cs_L_184 hC rfl rfl (by decide) (by decide) (Nat.le_of_ble_eq_true rfl) (by omega) (by omega) dL_law_1600 (fun x165 M166 hf => ?_)
      refine r_istore (L' := [(5, .int x165), (0, .ref b), (1, .ref (Z.1 0)), (2, .ref (Z.1 27)), (3, .ref (Z.1 43)), (4, .int v4)]) hC dL_law_1603 (by decide) rfl ?_
      refine r_aload_n hC dL_law_1605 3 rfl ?_
      refine r_aload_n hC dL_law_1606 1 rfl ?_
      refine r_iload hC dL_law_1607 5 rfl ?_
      refine r_iconst (v := 1) hC dL_law_1609 rfl ?_
      refine r_iadd hC dL_law_1610 ?_
      have hin := if_K hf
      have hf := if_V hf
      refine r_sld hC hl (inb_vp hin) dL_law_1611 ?_
      refine r_callVI [] (fun r M1 h => c_X6_save (cx_st hC) hz hZ (sc (Int32.toNatClampNeg (v4 + 1))) _  r M1 h) hf cs_L_186 hC (z_1 hZ 27 (by decide) rfl) (q0 := (RX6, TX6, 19)) rfl rfl [.int (sc (Int32.toNatClampNeg (v4 + 1)))] rfl rfl rfl (by decide) (by decide) (Nat.le_of_ble_eq_true rfl) (by omega) (by omega) dL_law_1612 (fun x167 M168 hf => ?_)
      refine r_istore (L' := [(6, .int x167), (5, .int x165), (0, .ref b), (1, .ref (Z.1 0)), (2, .ref (Z.1 27)), (3, .ref (Z.1 43)), (4, .int v4)]) hC dL_law_1615 (by decide) rfl ?_
      refine r_aload_n hC dL_law_1617 4 rfl ?_
      refine r_callVI [] (fun r M1 h => c_X6_thrown (cx_st hC) hz hZ  _  r M1 h) hf cs_L_99 hC (z_1 hZ 27 (by decide) rfl) (q0 := (RX6, TX6, 19)) rfl rfl [] rfl rfl rfl (by decide) (by decide) (Nat.le_of_ble_eq_true rfl) (by omega) (by omega) dL_law_1618 (fun x169 M170 hf => ?_)
      refine r_iload hC dL_law_1621 1 rfl ?_
      refine r_icmp_eq 1628 hC dL_law_1623 (by decide) (fun h => ?_) (fun h => ?_)
      · have hf := if_T hf h
        refine r_iload hC dL_law_1628 1 rfl ?_
        refine r_if_ne 1645 hC dL_law_1630 (by decide) (fun h => ?_) (fun h => ?_)
        · have hf := if_F hf h
          refine r_goto 1704 hC dL_law_1645 (by decide) ?_
          refine r_iinc (v := v4 + 4) (L' := [(4, .int (v4 + 4)), (6, .int x167), (5, .int x165), (0, .ref b), (1, .ref (Z.1 0)), (2, .ref (Z.1 27)), (3, .ref (Z.1 43))]) hC dL_law_1704 6 rfl rfl (by decide) rfl ?_
          refine r_goto 23 hC dL_law_1707 (by decide) ?_
          refine r_L [3, 4, 5, 6, 0] rfl ?_
          exact hkk _ _ (by omega) (by omega) _ _ hf
        · have hf := if_T hf h
          refine r_aload_n hC dL_law_1633 5 rfl ?_
          refine r_iconst (v := 0) hC dL_law_1634 rfl ?_
          refine r_lald hC (z_1 hZ 43 (by decide) rfl) (inb_vp (by decide)) dL_law_1635 ?_
          refine r_iload hC dL_law_1636 0 rfl ?_
          refine r_i2l hC dL_law_1638 ?_
          refine r_lcmp hC dL_law_1639 ?_
          refine r_if_eq 1645 hC dL_law_1640 (by decide) (fun h => ?_) (fun h => ?_)
          · have hf := if_T hf h
            refine r_goto 1704 hC dL_law_1645 (by decide) ?_
            refine r_iinc (v := v4 + 4) (L' := [(4, .int (v4 + 4)), (6, .int x167), (5, .int x165), (0, .ref b), (1, .ref (Z.1 0)), (2, .ref (Z.1 27)), (3, .ref (Z.1 43))]) hC dL_law_1704 6 rfl rfl (by decide) rfl ?_
            refine r_goto 23 hC dL_law_1707 (by decide) ?_
            refine r_L [3, 4, 5, 6, 0] rfl ?_
            exact hkk _ _ (by omega) (by omega) _ _ hf
          · have hf := if_F hf h
            refine r_iconst (v := 0) hC dL_law_1643 rfl ?_
            cases hf
      · have hf := if_F hf h
        refine r_iconst (v := 0) hC dL_law_1626 rfl ?_
        cases hf
    have hf := if_F hf e24
    by_cases e25 : ((sc (Int32.toNatClampNeg v4)) &&& 31) = 25
    · have hf := if_T hf e25
      refine r_swIn (c := 25) (tgt := 1648) hC dL_law_39 e25 (by decide) (by decide) rfl (by decide) ?_
      refine r_aload_n hC dL_law_1648 1 rfl ?_
      refine r_aload_n hC dL_law_1649 0 rfl ?_
      refine r_iload hC dL_law_1650 4 rfl ?_
      refine r_iconst (v := 1) hC dL_law_1652 rfl ?_
      refine r_iadd hC dL_law_1653 ?_
      have hin := if_K hf
      have hf := if_V hf
      refine r_sld hC hl (inb_vp hin) dL_law_1654 ?_
      refine r_aload_n hC dL_law_1655 3 rfl ?_
      refine r_wcall [] (fun r M1 h => c_L_restore (cx_st hC) hz hZ (sc (Int32.toNatClampNeg (v4 + 1))) _ r M1 h) hf cs_L_187 hC rfl rfl (by decide) (by decide) (Nat.le_of_ble_eq_true rfl) (by omega) (by omega) dL_law_1656 (fun x171 M172 hf => ?_)
      refine r_istore (L' := [(5, .int x171), (0, .ref b), (1, .ref (Z.1 0)), (2, .ref (Z.1 27)), (3, .ref (Z.1 43)), (4, .int v4)]) hC dL_law_1659 (by decide) rfl ?_
      refine r_aload_n hC dL_law_1661 3 rfl ?_
      refine r_aload_n hC dL_law_1662 1 rfl ?_
      refine r_iload hC dL_law_1663 5 rfl ?_
      refine r_iconst (v := 1) hC dL_law_1665 rfl ?_
      refine r_iadd hC dL_law_1666 ?_
      have hin := if_K hf
      have hf := if_V hf
      refine r_sld hC hl (inb_vp hin) dL_law_1667 ?_
      refine r_callVI [] (fun r M1 h => c_X6_restore (cx_st hC) hz hZ (sc (Int32.toNatClampNeg (v4 + 1))) _  r M1 h) hf cs_L_189 hC (z_1 hZ 27 (by decide) rfl) (q0 := (RX6, TX6, 19)) rfl rfl [.int (sc (Int32.toNatClampNeg (v4 + 1)))] rfl rfl rfl (by decide) (by decide) (Nat.le_of_ble_eq_true rfl) (by omega) (by omega) dL_law_1668 (fun x173 M174 hf => ?_)
      refine r_istore (L' := [(6, .int x173), (5, .int x171), (0, .ref b), (1, .ref (Z.1 0)), (2, .ref (Z.1 27)), (3, .ref (Z.1 43)), (4, .int v4)]) hC dL_law_1671 (by decide) rfl ?_
      refine r_aload_n hC dL_law_1673 4 rfl ?_
      refine r_callVI [] (fun r M1 h => c_X6_thrown (cx_st hC) hz hZ  _  r M1 h) hf cs_L_99 hC (z_1 hZ 27 (by decide) rfl) (q0 := (RX6, TX6, 19)) rfl rfl [] rfl rfl rfl (by decide) (by decide) (Nat.le_of_ble_eq_true rfl) (by omega) (by omega) dL_law_1674 (fun x175 M176 hf => ?_)
      refine r_iload hC dL_law_1677 1 rfl ?_
      refine r_icmp_eq 1684 hC dL_law_1679 (by decide) (fun h => ?_) (fun h => ?_)
      · have hf := if_T hf h
        refine r_iload hC dL_law_1684 1 rfl ?_
        refine r_if_ne 1701 hC dL_law_1686 (by decide) (fun h => ?_) (fun h => ?_)
        · have hf := if_F hf h
          refine r_goto 1704 hC dL_law_1701 (by decide) ?_
          refine r_iinc (v := v4 + 4) (L' := [(4, .int (v4 + 4)), (6, .int x173), (5, .int x171), (0, .ref b), (1, .ref (Z.1 0)), (2, .ref (Z.1 27)), (3, .ref (Z.1 43))]) hC dL_law_1704 6 rfl rfl (by decide) rfl ?_
          refine r_goto 23 hC dL_law_1707 (by decide) ?_
          refine r_L [3, 4, 5, 6, 0] rfl ?_
          exact hkk _ _ (by omega) (by omega) _ _ hf
        · have hf := if_T hf h
          refine r_aload_n hC dL_law_1689 5 rfl ?_
          refine r_iconst (v := 0) hC dL_law_1690 rfl ?_
          refine r_lald hC (z_1 hZ 43 (by decide) rfl) (inb_vp (by decide)) dL_law_1691 ?_
          refine r_iload hC dL_law_1692 0 rfl ?_
          refine r_i2l hC dL_law_1694 ?_
          refine r_lcmp hC dL_law_1695 ?_
          refine r_if_eq 1701 hC dL_law_1696 (by decide) (fun h => ?_) (fun h => ?_)
          · have hf := if_T hf h
            refine r_goto 1704 hC dL_law_1701 (by decide) ?_
            refine r_iinc (v := v4 + 4) (L' := [(4, .int (v4 + 4)), (6, .int x173), (5, .int x171), (0, .ref b), (1, .ref (Z.1 0)), (2, .ref (Z.1 27)), (3, .ref (Z.1 43))]) hC dL_law_1704 6 rfl rfl (by decide) rfl ?_
            refine r_goto 23 hC dL_law_1707 (by decide) ?_
            refine r_L [3, 4, 5, 6, 0] rfl ?_
            exact hkk _ _ (by omega) (by omega) _ _ hf
          · have hf := if_F hf h
            refine r_iconst (v := 0) hC dL_law_1699 rfl ?_
            cases hf
      · have hf := if_F hf h
        refine r_iconst (v := 0) hC dL_law_1682 rfl ?_
        cases hf
    have hf := if_F hf e25
    refine r_swOut (tgt := 1704) hC dL_law_39 (sw_out 0 25 (by decide) (by decide) (fun c hc1 hc2 => ?_)) (by decide) ?_
    · have : c = 0 ∨ c = 1 ∨ c = 2 ∨ c = 3 ∨ c = 4 ∨ c = 5 ∨ c = 6 ∨ c = 7 ∨ c = 8 ∨ c = 9 ∨ c = 10 ∨ c = 11 ∨ c = 12 ∨ c = 13 ∨ c = 14 ∨ c = 15 ∨ c = 16 ∨ c = 17 ∨ c = 18 ∨ c = 19 ∨ c = 20 ∨ c = 21 ∨ c = 22 ∨ c = 23 ∨ c = 24 ∨ c = 25 := by omega
      rcases this with rfl | rfl | rfl | rfl | rfl | rfl | rfl | rfl | rfl | rfl | rfl | rfl | rfl | rfl | rfl | rfl | rfl | rfl | rfl | rfl | rfl | rfl | rfl | rfl | rfl | rfl
      · exact e0
      · exact e1
      · exact e2
      · exact e3
      · exact e4
      · exact e5
      · exact e6
      · exact e7
      · exact e8
      · exact e9
      · exact e10
      · exact e11
      · exact e12
      · exact e13
      · exact e14
      · exact e15
      · exact e16
      · exact e17
      · exact e18
      · exact e19
      · exact e20
      · exact e21
      · exact e22
      · exact e23
      · exact e24
      · exact e25
    refine r_iinc (v := v4 + 4) (L' := [(4, .int (v4 + 4)), (0, .ref b), (1, .ref (Z.1 0)), (2, .ref (Z.1 27)), (3, .ref (Z.1 43))]) hC dL_law_1704 4 rfl rfl (by decide) rfl ?_
    refine r_goto 23 hC dL_law_1707 (by decide) ?_
    refine r_L [1, 2, 3, 4, 0] rfl ?_
    exact hkk _ _ (by omega) (by omega) _ _ hf
