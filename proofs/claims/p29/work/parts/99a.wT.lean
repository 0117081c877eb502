def CsW (own : String) (idx : Nat) (y : MethodName) (cy : ByteArray) (ny : Nat) (rety : Option FieldType) (hh : List (Nat × Nat × Nat × Nat)) (na : Nat) : Prop :=
  GoodIn TW (va_wsS own idx y [.codeWith y cy ny rety hh]) ∧ (y.cls ≠ "java/lang/invoke/MethodHandle" ∧ y.cls ≠ "java/lang/invoke/VarHandle") ∧ (parseMethodDescriptor y.desc).map (fun d => d.parameters.length) = some na
theorem csW_of {own : String} {idx : Nat} {y : MethodName} {cy : ByteArray} {ny : Nat} {rety : Option FieldType} {hh : List (Nat × Nat × Nat × Nat)} {na : Nat} (w1 : Cond.methodLink own idx y ∈ lw_tbl) (w2 : Cond.static y ∈ lw_tbl) (w4 : Cond.initialized y.cls ∈ lw_tbl) (w5 : Cond.codeWith y cy ny rety hh ∈ lw_tbl)
    (hd : (y.cls ≠ "java/lang/invoke/MethodHandle" ∧ y.cls ≠ "java/lang/invoke/VarHandle") ∧ (parseMethodDescriptor y.desc).map (fun d => d.parameters.length) = some na) : CsW own idx y cy ny rety hh na := by
  refine ⟨fun w hw => ?_, hd⟩
  unfold va_wsS at hw
  simp only [List.cons_append, List.nil_append, List.mem_cons, List.not_mem_nil, or_false] at hw
  rcases hw with rfl | rfl | rfl | rfl
  · exact ⟨tw_in w1 rfl, Or.inl rfl⟩
  · exact ⟨tw_in w2 rfl, Or.inl rfl⟩
  · exact ⟨tw_in w4 rfl, Or.inl rfl⟩
  · exact ⟨tw_in w5 rfl, Or.inl rfl⟩
def VX (X : XX) (G : GG) (Z : ZZ) (M : Mem) (k n : Nat) (Q : State → Prop) (pc : Nat) (L : List (Nat × Value)) (rest : List Value) (E : String) : Prop :=
  ∀ (H : Heap) (locs : List Loc) (ls : Array Slot) (q : Addr) (ce : Cell), va_P G.1 vwCl (wv G Z M) H → va_S G.2.2.1 (xs X).heap H locs → lv_has ls (xn X) L → H[q]? = some ce → ce.vm = .none → (xs X).vm.findClass E = some ce.cls → vx_W (xp X) (xl X) (xe X) (xR X) (xs X) (xm X) (xa X) (xb X) (xM X) (xc X) H locs k n Q (F0 (xm X) pc ls rest) q
def CW (Qc : Array Value → State → Outcome → State → Prop) (l : Launch) (G : GG) (Z : ZZ) (y : MethodName) (cc : ByteArray) (nL : Nat) (ret : Option FieldType) (hh : List (Nat × Nat × Nat × Nat)) (d mc ms : Nat) (As : List Value) (M : Mem) : Prop :=
  Met l y [.codeWith y cc nL ret hh] (rmd d mc ms) (va_Pc As (Wd G Z M)) Qc mc ms G.2.2.1
theorem CW.of {Qc : Array Value → State → Outcome → State → Prop} {l : Launch} {G : GG} {Z : ZZ} {y : MethodName} {cc : ByteArray} {nL : Nat} {ret : Option FieldType} {hh : List (Nat × Nat × Nat × Nat)} {d mc ms : Nat} {As : List Value} {M : Mem} (L0 : List (Nat × Value)) (hl : l.stackTraces = false) (hy : plainName y.cls = true) (hlen : (lg_sl As).length ≤ nL) (hL : lv_args 0 As = L0)
    (body : ∀ X : XX, Cx X G y.cls cc ret d mc ms nL → (xc X).exceptionTable.toList = tableOf hh → V X G Z M 0 0 (QN X G Qc mc ms) 0 L0 []) : CW Qc l G Z y cc nL ret hh d mc ms As M := by
  refine va_MetW (cc := cc) (maxL := nL) (ret := ret) (hh := hh) hy rfl ?_
  intro p e s m args below meth c s₁ B hml hv
  obtain ⟨rfl, hP, hK, hA, hsg, htw⟩ := hv
  have hown : s.vm.findClass y.cls = some m.cls := findClass_of_methodNamed B.named
  have hcw := atoms_spec (ws := [.codeWith y cc nL ret hh]) B.pre _ List.mem_cons_self
  have ht := vx_table (x := y) B hcw
  have hl0 := lv_entry As (n := nL) hlen
  rw [hL] at hl0
  rw [lg_entry_eq]
  exact body (p, l, e, rmd d mc ms, s, m, As.toArray, below, meth, c, nL) ⟨⟨B.exec, B.bytes, B.returns, hml, rfl⟩, hown, htw, B.notSynchronized, hK, hA, hsg, hl, rfl, Nat.le_refl _, rfl, rfl⟩ ht s.heap [] _ hP va_S.rf hl0
section RW
variable {X : XX} {G : GG} {Z : ZZ} {M : Mem} {k n : Nat} {Q : State → Prop} {pc : Nat} {L : List (Nat × Value)} {st : List Value} {own : String} {cc : ByteArray} {ret : Option FieldType} {d mc ms nL : Nat}
variable {y : MethodName} {cy : ByteArray} {ny dy na idx : Nat} {rety : Option FieldType} {As : List Value}
theorem r_hcallVI {f : Option (Except Nat Int32 × Mem)} {mcy msy : Nat} (rest : List Value) (C : ∀ (r : Except Nat Int32) (M1 : Mem), f = some (r, M1) → CTw (QcTI G Z r M1) (XcT G Z r M1) (xl X) G Z y cy ny rety dy mcy msy As M) (cs : CsV own idx y cy ny rety na) (hC : Cx X G own cc ret d mc ms nL) {i ci N : Nat} {F : Nat → Option (Option Nat)} {q0 : vw_C} (hi : At Z i (.inl (ci, N, F))) (hc : vwCl[ci]? = some q0) (hq : q0.1 = y.cls) (As' : List Value) (hAs : As = .ref (Z.1 i) :: As') (hn : As'.length = na) (hst : st = As'.reverse ++ .ref (Z.1 i) :: rest) (hd : dy + 1 ≤ d) (hlo : 8 + (ny + 11) + 40 * dy ≤ 40 * d) (hrest : (rest.map fun v => v.category).sum ≤ 8) (hk : k + mcy ≤ mc) (hm : n + msy ≤ ms) (hdg : decode cc pc = .ok (.invokevirtual idx, 3))
    (h0 : f = none → False) (kx : ∀ (e : Nat) (M1 : Mem), f = some (.error e, M1) → VX X G Z M1 (k + mcy) (n + msy) Q pc L rest (exn e))
    (kk : ∀ (r : Int32) (M1 : Mem), f = some (.ok r, M1) → V X G Z M1 (k + mcy) (n + msy) Q (pc + 3) L (.int r :: rest)) : V X G Z M k n Q pc L st := by
  cases f with
  | none => exact (h0 rfl).elim
  | some p =>
    obtain ⟨r0, M1⟩ := p
    have C := C r0 M1 rfl
    have hC0 := hC
    obtain ⟨⟨hx, hb, hr, hml, hn'⟩, hown, htw, hlk, hK, hA, hsg, hst', hR⟩ := hC
    obtain ⟨g1, g2, g3⟩ := cs
    subst hst
    subst hAs
    intro H locs ls hP hS hl
    obtain ⟨hR1, hR2, hR3, hR4⟩ := hR
    obtain ⟨q, -, hq1⟩ := wv_get (G := G) (M := M) hi
    have cw := cwV (R := xR X) (rm := rmd dy mcy msy) (mc := mcy) (ms := msy) na (htw.use (xa X)) g1 rfl rfl rfl ⟨rfl, g2.1, g2.2, g3⟩ ⟨by rw [hR1]; exact hd, Nat.le_trans hlo hR2⟩
    have run := vx_runV (own := own) (C := y.cls) (g := F0 (xm X) pc ls (As'.reverse ++ .ref (Z.1 i) :: rest)) (H := H) (locs := locs) (cells := k) (slots := n) (e := xe X) (below := xb X) (meth := xM X) ⟨hx, hb, hml, hown, htw.use (xa X)⟩ C cw ⟨Wd.blind _, by have h9 := va_recv hK hP hc hq1; rw [hq] at h9; exact h9, fun U hU hW => ⟨rfl, Wd.mk hC0 hP hS hU hW⟩⟩ rfl hn (by show ls.size = nL; rw [hl.1, hn']) rfl (lv_room hrest) hdg ⟨by rw [hR3]; exact hk, by rw [hR4]; exact hm⟩
    refine vx_calli run hS (fun q _ h => h) (fun q h => h) (fun q _ h => h) (fun E ce q9 u t H1 locs1 ht hvm hu hB _ _ hS1 hce hcv hcl => ?_) (fun r u t H1 locs1 ht hvm he hB _ _ hS1 => ?_)
    · subst hu
      obtain ⟨rfl, hB⟩ := hB
      subst ht
      exact kx u M1 rfl t.heap locs1 ls q9 ce hB hS1 hl hce hcv hcl
    · subst he; subst ht
      exact kk r M1 rfl t.heap locs1 ls hB hS1 hl
theorem r_catch {e : Nat} {tb : List ExceptionTableEntry} {rest : List Value} (hC : Cx X G own cc ret d mc ms nL) (ht : (xc X).exceptionTable.toList = tb) (pre : List ExceptionTableEntry) (x : ExceptionTableEntry) (suf : List ExceptionTableEntry) (hs : tb = pre ++ x :: suf) (hcov : covers x pc = true) (hct : x.catchType ≠ 0) (hlink : Cond.classLink own x.catchType (exn e) ∈ TW) (hcast : Cond.castable (exn e) (exn e) ∈ TW) (he : e < 3)
    (hpass : ∀ z ∈ pre, z.catchType ≠ 0 ∧ ∃ a : Nat, a < 3 ∧ e ≠ a ∧ Cond.classLink own z.catchType (exn a) ∈ TW) (kk : ∀ q : Nat, V X G Z M k n Q x.handlerPc L [.ref q]) : VX X G Z M k n Q pc L rest (exn e) := by
  obtain ⟨⟨hx, hb, hr, hml, hn'⟩, hown, htw, hlk, hK, hA, hsg, hst', hR⟩ := hC
  intro H locs ls q ce hP hS hl hce hcv hcl
  refine vx_catch hown pre x suf (ht.trans hs) (fun z hz => ?_) hcov hct (htw.use _ _ hlink) (htw.use _ _ hcast) hce hcv hcl (kk q H locs ls hP hS hl)
  obtain ⟨h1, a, h2, h3, h4⟩ := hpass z hz
  exact Or.inr ⟨h1, exn a, htw.use _ _ h4, hsg.2.2.2.2.2.1 e a he h2 h3⟩
theorem r_wcall {β : Type} {f : Option (Int32 × Mem)} {K : Int32 → Mem → Option β} {res : β} {hh : List (Nat × Nat × Nat × Nat)} {mcy msy : Nat} (rest : List Value) (C : ∀ (r : Int32) (M1 : Mem), f = some (r, M1) → CW (QcI G Z r M1) (xl X) G Z y cy ny rety hh dy mcy msy As M) (hf : ob f K = some res) (cs : CsW own idx y cy ny rety hh na) (hC : Cx X G own cc ret d mc ms nL) (hn : As.length = na) (hst : st = As.reverse ++ rest) (hd : dy + 1 ≤ d) (hlo : 8 + (ny + 11) + 40 * dy ≤ 40 * d) (hrest : (rest.map fun v => v.category).sum ≤ 8) (hk : k + mcy ≤ mc) (hm : n + msy ≤ ms) (hdg : decode cc pc = .ok (.invokestatic idx, 3))
    (kk : ∀ (r : Int32) (M1 : Mem), K r M1 = some res → V X G Z M1 (k + mcy) (n + msy) Q (pc + 3) L (.int r :: rest)) : V X G Z M k n Q pc L st := by
  cases f with
  | none => cases hf
  | some p =>
    obtain ⟨r0, M1⟩ := p
    have C := C r0 M1 rfl
    have kk := kk r0 M1 hf
    have hC0 := hC
    obtain ⟨⟨hx, hb, hr, hml, hn'⟩, hown, htw, hlk, hK, hA, hsg, hst', hR⟩ := hC
    obtain ⟨g1, g2, g3⟩ := cs
    subst hst
    intro H locs ls hP hS hl
    obtain ⟨hR1, hR2, hR3, hR4⟩ := hR
    have cw := vx_cwSW (R := xR X) (rm := rmd dy mcy msy) (mc := mcy) (ms := msy) na (htw.use (xa X)) g1 rfl rfl rfl ⟨g2.1, g2.2, g3⟩ ⟨by rw [hR1]; exact hd, Nat.le_trans hlo hR2⟩
    have run := vx_runSW (own := own) (g := F0 (xm X) pc ls (As.reverse ++ rest)) (H := H) (locs := locs) (cells := k) (slots := n) (e := xe X) (below := xb X) (meth := xM X) ⟨hx, hb, hml, hown, htw.use (xa X)⟩ C cw ⟨Wd.blind _, fun U hU hW => ⟨rfl, Wd.mk hC0 hP hS hU hW⟩⟩ rfl hn (by show ls.size = nL; rw [hl.1, hn']) rfl (lv_room hrest) hdg ⟨by rw [hR3]; exact hk, by rw [hR4]; exact hm⟩
    refine va_calli run hS (fun q _ h => h) (fun q h => h) (fun r u t H1 locs1 ht hvm he hB _ _ hS1 => ?_)
    subst he; subst ht
    exact kk t.heap locs1 ls hB hS1 hl
end RW
/-! THE SCRIPT, CALLS OF METHODS THAT MAKE THINGS -/
def CC (Qc : Array Value → State → Outcome → State → Prop) (l : Launch) (G : GG) (Z : ZZ) (y : MethodName) (cc : ByteArray) (nL : Nat) (ret : Option FieldType) (d mc ms : Nat) (As : List Value) (M : Mem) : Prop :=
  Met l y [.code y cc nL ret] (rmd d mc ms) (va_Pc As (Wd G Z M)) Qc mc ms G.2.2.1
theorem CC.of {Qc : Array Value → State → Outcome → State → Prop} {l : Launch} {G : GG} {Z : ZZ} {y : MethodName} {cc : ByteArray} {nL : Nat} {ret : Option FieldType} {d mc ms : Nat} {As : List Value} {M : Mem} (L0 : List (Nat × Value)) (hl : l.stackTraces = false) (hy : plainName y.cls = true) (hlen : (lg_sl As).length ≤ nL) (hL : lv_args 0 As = L0)
    (body : ∀ X : XX, Cx X G y.cls cc ret d mc ms nL → V X G Z M 0 0 (QN X G Qc mc ms) 0 L0 []) : CC Qc l G Z y cc nL ret d mc ms As M := by
  refine Met.ofW (cc := cc) (maxL := nL) (ret := ret) hy rfl ?_
  intro p e s m args below meth c s₁ B hml hv
  obtain ⟨rfl, hP, hK, hA, hsg, htw⟩ := hv
  have hown : s.vm.findClass y.cls = some m.cls := findClass_of_methodNamed B.named
  have hl0 := lv_entry As (n := nL) hlen
  rw [hL] at hl0
  rw [lg_entry_eq]
  exact body (p, l, e, rmd d mc ms, s, m, As.toArray, below, meth, c, nL) ⟨⟨B.exec, B.bytes, B.returns, hml, rfl⟩, hown, htw, B.notSynchronized, hK, hA, hsg, hl, rfl, Nat.le_refl _, rfl, rfl⟩ s.heap [] _ hP va_S.rf hl0
section RS
variable {X : XX} {G : GG} {Z : ZZ} {M : Mem} {k n : Nat} {Q : State → Prop} {pc : Nat} {L : List (Nat × Value)} {st rest : List Value} {own : String} {cc : ByteArray} {ret : Option FieldType} {d mc ms nL : Nat}
variable {y : MethodName} {cy : ByteArray} {ny dy na idx : Nat} {rety : Option FieldType} {As : List Value}
theorem r_ccall {β : Type} {f : Option (Int32 × Mem)} {K : Int32 → Mem → Option β} {res : β} {mcy msy : Nat} (rest : List Value) (C : ∀ (r : Int32) (M1 : Mem), f = some (r, M1) → CC (QcI G Z r M1) (xl X) G Z y cy ny rety dy mcy msy As M) (hf : ob f K = some res) (cs : CsS own idx y cy ny rety na) (hC : Cx X G own cc ret d mc ms nL) (hn : As.length = na) (hst : st = As.reverse ++ rest) (hd : dy + 1 ≤ d) (hlo : 8 + (ny + 11) + 40 * dy ≤ 40 * d) (hrest : (rest.map fun v => v.category).sum ≤ 8) (hk : k + mcy ≤ mc) (hm : n + msy ≤ ms) (hdg : decode cc pc = .ok (.invokestatic idx, 3))
    (kk : ∀ (r : Int32) (M1 : Mem), K r M1 = some res → V X G Z M1 (k + mcy) (n + msy) Q (pc + 3) L (.int r :: rest)) : V X G Z M k n Q pc L st := by
  cases f with
  | none => cases hf
  | some p =>
    obtain ⟨r0, M1⟩ := p
    have C := C r0 M1 rfl
    have kk := kk r0 M1 hf
    have hC0 := hC
    obtain ⟨⟨hx, hb, hr, hml, hn'⟩, hown, htw, hlk, hK, hA, hsg, hst', hR⟩ := hC
    obtain ⟨g1, g2, g3⟩ := cs
    subst hst
    intro H locs ls hP hS hl
    obtain ⟨hR1, hR2, hR3, hR4⟩ := hR
    have cw := va_cwS (R := xR X) (rm := rmd dy mcy msy) (mc := mcy) (ms := msy) na (htw.use (xa X)) g1 rfl rfl rfl ⟨g2.1, g2.2, g3⟩ ⟨by rw [hR1]; exact hd, Nat.le_trans hlo hR2⟩
    have run := va_runS (own := own) (g := F0 (xm X) pc ls (As.reverse ++ rest)) (H := H) (locs := locs) (cells := k) (slots := n) (e := xe X) (below := xb X) (meth := xM X) ⟨hx, hb, hml, hown, htw.use (xa X)⟩ C cw ⟨Wd.blind _, fun U hU hW => ⟨rfl, Wd.mk hC0 hP hS hU hW⟩⟩ rfl hn (by show ls.size = nL; rw [hl.1, hn']) rfl (lv_room hrest) hdg ⟨by rw [hR3]; exact hk, by rw [hR4]; exact hm⟩
    refine va_calli run hS (fun q _ h => h) (fun q h => h) (fun r u t H1 locs1 ht hvm he hB _ _ hS1 => ?_)
    subst he; subst ht
    exact kk t.heap locs1 ls hB hS1 hl
theorem r_sld {i : Int32} (hC : Cx X G own cc ret d mc ms nL) (hin : vp_in i (lnG G)) (hdg : decode cc pc = .ok (.iaload, 1)) (kk : V X G Z M k n Q (pc + 1) L (.int (scG G i.toNatClampNeg) :: rest)) : V X G Z M k n Q pc L (.int i :: .ref (G.2.2.2 3) :: rest) := by
  obtain ⟨⟨hx, hb, hr, hml, hn⟩, hown, htw, hlk, hK, hA, hsg, hst, hR⟩ := hC
  intro H locs ls hP hS hl'
  exact va_sld hx hb hsg.2.2.2.2.2.2.1 (SX.lt hsg.2.2.2.2.2.2) hsg.2.2.2.2.2.2.2 hS hin hdg (kk H locs ls hP hS hl')
theorem r_slen (hC : Cx X G own cc ret d mc ms nL) (hdg : decode cc pc = .ok (.arraylength, 1)) (kk : V X G Z M k n Q (pc + 1) L (.int (Int32.ofNat (lnG G)) :: rest)) : V X G Z M k n Q pc L (.ref (G.2.2.2 3) :: rest) := by
  obtain ⟨⟨hx, hb, hr, hml, hn⟩, hown, htw, hlk, hK, hA, hsg, hst, hR⟩ := hC
  intro H locs ls hP hS hl'
  exact va_slen hx hb hsg.2.2.2.2.2.2.1 (SX.lt hsg.2.2.2.2.2.2) hsg.2.2.2.2.2.2.2 hS hdg (kk H locs ls hP hS hl')
end RS
/-- what stands in Z stands in Zq -/
def Sub (G : GG) (Z Zq : ZZ) : Prop := ∀ (M : Mem) (H : Heap), va_P G.1 vwCl (wv G Z M) H → va_P G.1 vwCl (wv G Zq M) H
theorem sub_add {G : GG} {Z : ZZ} {i a : Nat} {D : Dsc} (hz : ZK G Z) (hi : i ∉ Z.2.2) : Sub G (zadd Z i a D) Z := by
  intro M H hP
  have hP := wvP.mp hP
  refine wvP.mpr (fun j hj => ?_)
  have hne : ∀ q, q ∈ Z.2.2 → q ≠ i := fun q hq e => hi (e ▸ hq)
  have h := hP j (List.mem_append.mpr (Or.inl hj))
  rw [zadd_1 (hne j hj), zadd_2 (hne j hj)] at h
  exact Sm.at (Sm.rf (fun r hr => zadd_1 (hne r (hz.2 j hj r hr)))) h
theorem r_zretS {X : XX} {G : GG} {Z Zq : ZZ} {M M' : Mem} {k n : Nat} {pc : Nat} {L : List (Nat × Value)} {own : String} {cc : ByteArray} {ret : Option FieldType} {d mc ms nL : Nat} {x r : Int32} (hzz : Sub G Z Zq) (hf : some (x, M) = some (r, M')) (hC : Cx X G own cc ret d mc ms nL) {ty : FieldType} (he : ret = some ty) (hnr : narrow ty (.int x) = .int x) (hk : k ≤ mc) (hm : n ≤ ms) (hdg : decode cc pc = .ok (.ireturn, 1)) : V X G Z M k n (QN X G (QcI G Zq r M') mc ms) pc L [.int x] := by
  cases hf
  obtain ⟨⟨hx, hb, hr, hml, hn⟩, hown, htw, hlk, hK, hA, hsg, hst, hR⟩ := hC
  intro H locs ls hP hS hl
  refine W.widen hk hm ?_
  exact W.zret hx hb (by rw [hr, he]) hnr (fun t ht hW => ⟨⟨x, (), rfl, rfl, by show va_P _ _ _ t.heap; rw [ht]; exact hzz _ _ hP⟩, hS.F ht⟩) hS.2.2 hdg hlk
theorem r_new4 {X : XX} {G : GG} {Z : ZZ} {M : Mem} {k n : Nat} {Q : State → Prop} {pc : Nat} {L : List (Nat × Value)} {rest : List Value} {own : String} {cc : ByteArray} {ret : Option FieldType} {d mc msl nL : Nat} (hC : Cx X G own cc ret d mc msl nL) (hz : ZK G Z) (hi : 43 ∉ Z.2.2) (hk : k + 1 ≤ mc) (hn : n + 4 ≤ msl) (hdg : decode cc pc = .ok (.newarray .int, 2)) (kk : ∀ a : Nat, ZOk G (zadd Z 43 a (dA 0 4)) → (∀ (i : Nat) (D : Dsc), At Z i D → At (zadd Z 43 a (dA 0 4)) i D) → At (zadd Z 43 a (dA 0 4)) 43 (dA 0 4) → Sub G (zadd Z 43 a (dA 0 4)) Z → V X G (zadd Z 43 a (dA 0 4)) (ms M 43 (fun _ => 0)) (k + 1) (n + 4) Q (pc + 2) L (.ref a :: rest)) : V X G Z M k n Q pc L (.int 4 :: rest) := by
  refine r_newa (atype := .int) (ty := .int) (i := 43) (t := 0) (N := 4) w_ai rfl rfl rfl (fun _ _ h => h) (by decide) (by decide) (by decide) hC hz hi hk hn hdg (fun a hz1 => kk a hz1.1 (fun i D h => ?_) ?_ (sub_add hz hi))
  · have hne : i ≠ 43 := fun e => hi (e ▸ h.1)
    exact ⟨List.mem_append.mpr (Or.inl h.1), (zadd_2 hne).trans h.2⟩
  · exact ⟨List.mem_append.mpr (Or.inr (List.mem_singleton.mpr rfl)), zadd_21⟩
/-! THE LAW'S END -/
def LawOk (X : XX) (G : GG) : Prop := xa X = #[Value.ref (G.2.2.2 3)] ∧ xR X = room_1 ∧ ∀ q : Nat, G.2.2.1 q → (xs X).heap.size ≤ q
def QL (X : XX) : State → Prop := lw_Z (xb X) (xa X) (xs X)
theorem r_lawret {X : XX} {G : GG} {Z : ZZ} {M : Mem} {k n : Nat} {pc : Nat} {L0 : List (Nat × Value)} {d nL : Nat} {x : Int32} (hv : x = 1) (hC : Cx X G RL cL_law (some .boolean) d 600130 7301080 nL) (hl : LawOk X G) (hk : k ≤ 600130) (hn : n ≤ 7301080) (hdg : decode cL_law pc = .ok (.ireturn, 1)) : V X G Z M k n (QL X) pc L0 [.int x] := by
  obtain ⟨p, l, e, R, s, m, args, below, meth, c, nL'⟩ := X
  obtain ⟨⟨hx, hb, hr, hml, hn'⟩, hown, htw, hlk, hK, hA, hsg, hst, hR⟩ := hC
  obtain ⟨h4, h5, h6⟩ := hl
  intro H locs ls hP hS hl'
  have h4 : args = #[Value.ref (G.2.2.2 3)] := h4
  have h5 : R = room_1 := h5
  subst h4; subst h5; subst hv
  exact va_forget (fun q hq => h6 _ (hS.2.2 q hq)) (W.widen hk hn (lw_ret hx hb hr hlk hdg))
theorem kw_cl_13 : Cond.classLink RL 13 (exn 0) ∈ TW := tw_in mm_278 rfl
theorem kw_cl_15 : Cond.classLink RL 15 (exn 1) ∈ TW := tw_in mm_369 rfl
theorem kw_cl_28 : Cond.classLink RL 28 (exn 2) ∈ TW := tw_in mm_543 rfl
theorem kw_cast_0 : Cond.castable (exn 0) (exn 0) ∈ TW := tw_in mm_305 rfl
theorem kw_cast_1 : Cond.castable (exn 1) (exn 1) ∈ TW := tw_in mm_380 rfl
theorem kw_cast_2 : Cond.castable (exn 2) (exn 2) ∈ TW := tw_in mm_553 rfl
theorem cs_L_21 : CsV RL 21 yX5_about cX5_about 2 (some .int) 1 := csV_of mm_279 mm_280 mm_281 mm_30 mm_282 (by decide +kernel)
theorem cs_L_54 : CsV RL 54 yX5_undo cX5_undo 1 (some .int) 0 := csV_of mm_370 mm_371 mm_372 mm_30 mm_373 (by decide +kernel)
theorem cs_L_66 : CsV RL 66 yX5_whole cX5_whole 2 (some .int) 1 := csV_of mm_404 mm_405 mm_406 mm_30 mm_407 (by decide +kernel)
theorem cs_L_83 : CsV RL 83 yX5_save cX5_save 2 (some .int) 1 := csV_of mm_544 mm_545 mm_546 mm_30 mm_547 (by decide +kernel)
theorem cs_L_86 : CsV RL 86 yX5_restore cX5_restore 2 (some .int) 1 := csV_of mm_570 mm_571 mm_572 mm_30 mm_573 (by decide +kernel)
theorem cs_L_7 : CsV RL 7 yX5_append cX5_append 2 (some .int) 1 := csV_of mm_600 mm_601 mm_602 mm_30 mm_603 (by decide +kernel)
theorem cs_L_17 : CsV RL 17 yX5_load cX5_load 2 (some .int) 0 := csV_of mm_616 mm_617 mm_618 mm_30 mm_619 (by decide +kernel)
theorem cs_L_24 : CsV RL 24 yX5_cell cX5_cell 4 (some .int) 3 := csV_of mm_627 mm_628 mm_629 mm_30 mm_630 (by decide +kernel)
theorem cs_L_30 : CsV RL 30 yX5_set cX5_set 4 (some .int) 2 := csV_of mm_653 mm_654 mm_655 mm_30 mm_656 (by decide +kernel)
theorem cs_L_34 : CsV RL 34 yX5_write cX5_write 5 (some .int) 3 := csV_of mm_675 mm_676 mm_677 mm_30 mm_678 (by decide +kernel)
theorem cs_L_38 : CsV RL 38 yX5_transpose cX5_transpose 3 (some .int) 2 := csV_of mm_691 mm_692 mm_693 mm_30 mm_694 (by decide +kernel)
theorem cs_L_41 : CsV RL 41 yX5_exchange cX5_exchange 3 (some .int) 2 := csV_of mm_706 mm_707 mm_708 mm_30 mm_709 (by decide +kernel)
theorem cs_L_44 : CsV RL 44 yX5_staff cX5_staff 2 (some .int) 1 := csV_of mm_717 mm_718 mm_719 mm_30 mm_720 (by decide +kernel)
theorem cs_L_48 : CsV RL 48 yX5_insertBeat cX5_insertBeat 2 (some .int) 1 := csV_of mm_736 mm_737 mm_738 mm_30 mm_739 (by decide +kernel)
theorem cs_L_51 : CsV RL 51 yX5_removeBeat cX5_removeBeat 2 (some .int) 1 := csV_of mm_747 mm_748 mm_749 mm_30 mm_750 (by decide +kernel)
theorem cs_L_57 : CsV RL 57 yX5_note cX5_note 4 (some .int) 3 := csV_of mm_758 mm_759 mm_760 mm_30 mm_761 (by decide +kernel)
theorem cs_L_60 : CsV RL 60 yX5_hand cX5_hand 4 (some .int) 3 := csV_of mm_770 mm_771 mm_772 mm_30 mm_773 (by decide +kernel)
theorem cs_L_63 : CsV RL 63 yX5_beat cX5_beat 3 (some .int) 2 := csV_of mm_783 mm_784 mm_785 mm_30 mm_786 (by decide +kernel)
theorem cs_L_69 : CsV RL 69 yX5_whatIf cX5_whatIf 4 (some .int) 3 := csV_of mm_794 mm_795 mm_796 mm_30 mm_797 (by decide +kernel)
theorem cs_L_72 : CsV RL 72 yX5_bestTransposition cX5_bestTransposition 7 (some .int) 1 := csV_of mm_805 mm_806 mm_807 mm_30 mm_808 (by decide +kernel)
theorem cs_L_75 : CsV RL 75 yX5_runScript cX5_runScript 5 (some .int) 2 := csV_of mm_813 mm_814 mm_815 mm_30 mm_816 (by decide +kernel)
theorem cs_L_79 : CsV RL 79 yX5_simulate cX5_simulate 8 (some .int) 2 := csV_of mm_846 mm_847 mm_848 mm_30 mm_849 (by decide +kernel)
theorem kw_L_89 : Cond.constant RL 89 (15515123) ∈ TW := tw_in mm_581 rfl
theorem kw_L_90 : Cond.constant RL 90 (2147483647) ∈ TW := tw_in mm_582 rfl
theorem cs_L_91 : CsW RL 91 yL_tryAppend cL_tryAppend 3 (some .int) [(0, 5, 6, 13), (0, 5, 11, 15)] 2 := csW_of mm_597 mm_598 mm_29 mm_599 (by decide +kernel)
theorem cs_L_115 : CsW RL 115 yL_tryAbout cL_tryAbout 3 (some .int) [(0, 5, 6, 13)] 2 := csW_of mm_275 mm_276 mm_29 mm_277 (by decide +kernel)
theorem cs_L_124 : CsW RL 124 yL_tryWhole cL_tryWhole 3 (some .int) [(0, 5, 6, 13)] 2 := csW_of mm_401 mm_402 mm_29 mm_403 (by decide +kernel)
theorem cs_L_127 : CsW RL 127 yL_tryCell cL_tryCell 5 (some .int) [(0, 7, 8, 28)] 4 := csW_of mm_624 mm_625 mm_29 mm_626 (by decide +kernel)
theorem cs_L_131 : CsW RL 131 yL_trySet cL_trySet 4 (some .int) [(0, 6, 7, 13)] 3 := csW_of mm_650 mm_651 mm_29 mm_652 (by decide +kernel)
theorem cs_L_135 : CsW RL 135 yL_tryWrite cL_tryWrite 5 (some .int) [(0, 7, 8, 28), (0, 7, 14, 13), (0, 7, 20, 15)] 4 := csW_of mm_672 mm_673 mm_29 mm_674 (by decide +kernel)
theorem cs_L_139 : CsW RL 139 yL_tryTranspose cL_tryTranspose 4 (some .int) [(0, 6, 7, 28), (0, 6, 12, 13), (0, 6, 17, 15)] 3 := csW_of mm_688 mm_689 mm_29 mm_690 (by decide +kernel)
theorem cs_L_142 : CsW RL 142 yL_tryExchange cL_tryExchange 4 (some .int) [(0, 6, 7, 28)] 3 := csW_of mm_703 mm_704 mm_29 mm_705 (by decide +kernel)
theorem cs_L_145 : CsW RL 145 yL_tryStaff cL_tryStaff 3 (some .int) [(0, 5, 6, 15)] 2 := csW_of mm_714 mm_715 mm_29 mm_716 (by decide +kernel)
theorem cs_L_149 : CsW RL 149 yL_tryInsertBeat cL_tryInsertBeat 3 (some .int) [(0, 5, 6, 28), (0, 5, 11, 15)] 2 := csW_of mm_733 mm_734 mm_29 mm_735 (by decide +kernel)
theorem cs_L_152 : CsW RL 152 yL_tryRemoveBeat cL_tryRemoveBeat 3 (some .int) [(0, 5, 6, 28), (0, 5, 11, 15)] 2 := csW_of mm_744 mm_745 mm_29 mm_746 (by decide +kernel)
theorem cs_L_155 : CsW RL 155 yL_tryNote cL_tryNote 5 (some .int) [(0, 7, 8, 28), (0, 7, 14, 13)] 4 := csW_of mm_755 mm_756 mm_29 mm_757 (by decide +kernel)
theorem cs_L_158 : CsW RL 158 yL_tryHand cL_tryHand 5 (some .int) [(0, 7, 8, 28), (0, 7, 14, 13)] 4 := csW_of mm_767 mm_768 mm_29 mm_769 (by decide +kernel)
theorem cs_L_161 : CsW RL 161 yL_tryBeat cL_tryBeat 4 (some .int) [(0, 6, 7, 28), (0, 6, 12, 13)] 3 := csW_of mm_780 mm_781 mm_29 mm_782 (by decide +kernel)
theorem cs_L_164 : CsW RL 164 yL_tryWhatIf cL_tryWhatIf 5 (some .int) [(0, 7, 8, 13)] 4 := csW_of mm_791 mm_792 mm_29 mm_793 (by decide +kernel)
theorem cs_L_167 : CsW RL 167 yL_tryBestTransposition cL_tryBestTransposition 3 (some .int) [(0, 5, 6, 28)] 2 := csW_of mm_802 mm_803 mm_29 mm_804 (by decide +kernel)
theorem cs_L_170 : CsW RL 170 yL_tryScript cL_tryScript 5 (some .int) [(0, 6, 7, 13)] 3 := csW_of mm_810 mm_811 mm_29 mm_812 (by decide +kernel)
theorem kw_L_174 : Cond.constantLong RL 174 (100000) ∈ TW := tw_in mm_842 rfl
theorem cs_L_176 : CsW RL 176 yL_trySimulate cL_trySimulate 5 (some .int) [(0, 6, 7, 13)] 3 := csW_of mm_843 mm_844 mm_29 mm_845 (by decide +kernel)
theorem cs_L_180 : CsW RL 180 yL_trySave cL_trySave 3 (some .int) [(0, 5, 6, 28)] 2 := csW_of mm_540 mm_541 mm_29 mm_542 (by decide +kernel)
theorem cs_L_121 : CsW RL 121 yL_tryRestore cL_tryRestore 3 (some .int) [(0, 5, 6, 28), (0, 5, 11, 15)] 2 := csW_of mm_567 mm_568 mm_29 mm_569 (by decide +kernel)
theorem cs_L_97 : CsS RL 97 yL_number cL_number 2 (some .int) 2 := csS_of mm_578 mm_579 mm_29 mm_580 (by decide +kernel)
theorem cs_L_101 : CsV RL 101 yX5_clearText cX5_clearText 1 (some .int) 0 := csV_of mm_586 mm_587 mm_588 mm_30 mm_589 (by decide +kernel)
theorem cs_L_104 : CsS RL 104 yL_put cL_put 3 (some .boolean) 3 := csS_of mm_594 mm_595 mm_29 mm_596 (by decide +kernel)
theorem cs_L_108 : CsV RL 108 yX5_errorPosition cX5_errorPosition 1 (some .int) 0 := csV_of mm_227 mm_228 mm_229 mm_30 mm_230 (by decide +kernel)
theorem cs_L_111 : CsW RL 111 yL_tryLoad cL_tryLoad 2 (some .int) [(0, 4, 5, 15)] 1 := csW_of mm_613 mm_614 mm_29 mm_615 (by decide +kernel)
theorem cs_L_118 : CsW RL 118 yL_tryUndo cL_tryUndo 2 (some .int) [(0, 4, 5, 15)] 1 := csW_of mm_366 mm_367 mm_29 mm_368 (by decide +kernel)
theorem kw_L_197 : Cond.constantLong RL 197 (101) ∈ TW := tw_in mm_877 rfl
theorem kw_L_199 : Cond.constantLong RL 199 (70000) ∈ TW := tw_in mm_878 rfl
theorem kw_L_201 : Cond.constantLong RL 201 (1000) ∈ TW := tw_in mm_879 rfl
theorem kw_L_203 : Cond.constantLong RL 203 (70001) ∈ TW := tw_in mm_880 rfl
theorem kw_L_205 : Cond.constantLong RL 205 (80000) ∈ TW := tw_in mm_881 rfl
theorem kw_L_207 : Cond.constantLong RL 207 (100) ∈ TW := tw_in mm_882 rfl
theorem kw_L_213 : Cond.constantLong RL 213 (10000) ∈ TW := tw_in mm_885 rfl
theorem kw_L_215 : Cond.constantLong RL 215 (1001215002) ∈ TW := tw_in mm_886 rfl
theorem kw_L_217 : Cond.constantLong RL 217 (20061) ∈ TW := tw_in mm_887 rfl
theorem kw_L_219 : Cond.constantLong RL 219 (20060) ∈ TW := tw_in mm_888 rfl
theorem kw_L_221 : Cond.constantLong RL 221 (40000) ∈ TW := tw_in mm_889 rfl
theorem kw_L_223 : Cond.constantLong RL 223 (20000) ∈ TW := tw_in mm_890 rfl
theorem kw_L_225 : Cond.constantLong RL 225 (50000) ∈ TW := tw_in mm_891 rfl
theorem kw_L_227 : Cond.constantLong RL 227 (60000) ∈ TW := tw_in mm_892 rfl
theorem kw_L_229 : Cond.constantLong RL 229 (200003000090000) ∈ TW := tw_in mm_893 rfl
theorem kw_L_209 : Cond.constantLong RL 209 (90000) ∈ TW := tw_in mm_883 rfl
theorem kw_L_211 : Cond.constantLong RL 211 (90004) ∈ TW := tw_in mm_884 rfl
theorem cs_L_194 : CsV RL 194 yX5_dearest cX5_dearest 5 (some .int) 0 := csV_of mm_869 mm_870 mm_871 mm_30 mm_872 (by decide +kernel)
theorem cs_L_183 : CsS RL 183 yL_beats cL_beats 23 (some .boolean) 1 := csS_of mm_856 mm_857 mm_29 mm_858 (by decide +kernel)
theorem cs_L_187 : CsV RL 187 yX5_smallestSpan cX5_smallestSpan 3 (some .int) 0 := csV_of mm_862 mm_863 mm_864 mm_30 mm_865 (by decide +kernel)
theorem cs_L_190 : CsS RL 190 yL_moved cL_moved 15 (some .boolean) 3 := csS_of mm_866 mm_867 mm_29 mm_868 (by decide +kernel)
theorem cs_L_232 : CsS RL 232 yL_refuses cL_refuses 4 (some .boolean) 1 := csS_of mm_647 mm_648 mm_29 mm_649 (by decide +kernel)
theorem cs_L_235 : CsS RL 235 yL_alike cL_alike 5 (some .boolean) 2 := csS_of mm_621 mm_622 mm_29 mm_623 (by decide +kernel)
theorem cs_L_239 : CsS RL 239 yL_told cL_told 16 (some .boolean) 4 := csS_of mm_583 mm_584 mm_29 mm_585 (by decide +kernel)
theorem cs_L_243 : CsS RL 243 yL_act cL_act 7 (some .int) 3 := csS_of mm_894 mm_895 mm_29 mm_896 (by decide +kernel)
theorem cs_L_246 : CsS RL 246 yL_scripts cL_scripts 12 (some .boolean) 2 := csS_of mm_874 mm_875 mm_29 mm_876 (by decide +kernel)
theorem cs_L_250 : CsS RL 250 yL_changed cL_changed 16 (some .boolean) 2 := csS_of mm_859 mm_860 mm_29 mm_861 (by decide +kernel)
set_option maxRecDepth 20000 in
theorem w_L_tryAbout {X : XX} {G : GG} {Z : ZZ} (hC : Cx X G RL cL_tryAbout (some .int) 7 1 6 3) (ht : (xc X).exceptionTable.toList = tableOf [(0, 5, 6, 13)]) (hz : ZOk G Z) (hZ : ZM Z) (v1 : Int32) (M : Mem) {r : Int32} {M' : Mem} (hf : f_L_tryAbout v1 M = some (r, M')) : V X G Z M 0 0 (QN X G (QcI G Z r M') 1 6) 0 [(0, .ref (Z.1 0)), (1, .int v1)] [] := by
  unfold f_L_tryAbout at hf
  refine r_aload_n hC dL_tryAbout_0 0 rfl ?_
  refine r_iload_n hC dL_tryAbout_1 1 rfl ?_
  refine r_hcallVI [] (fun r M1 h => c_X5_about (cx_st hC) hz hZ v1 _ r M1 h) cs_L_21 hC (z_1 hZ 0 (by decide) rfl) (q0 := (RX5, TX5, 7)) rfl rfl [.int v1] rfl rfl rfl (by decide) (by decide) (Nat.le_of_ble_eq_true rfl) (by decide) (by decide) dL_tryAbout_2 (fun h0 => by rw [h0] at hf; cases hf) (fun e M1 he => ?_) (fun x M1 hx => ?_)
  · rw [he] at hf
    match e, he, hf with
    | 0, he, hf =>
      have hf : some ((-1002 : Int32), M1) = some (r, M') := hf
      refine r_catch (e := 0) hC ht [] ⟨0, 5, 6, 13⟩ [] rfl (by decide +kernel) (by decide) kw_cl_13 kw_cast_0 (by decide) (fun z hz => absurd hz List.not_mem_nil) (fun q => ?_)
      refine r_astore_n (L' := [(2, .ref q), (0, .ref (Z.1 0)), (1, .int v1)]) hC dL_tryAbout_6 (by decide) rfl ?_
      refine r_sipush (v := -1002) hC dL_tryAbout_7 rfl ?_
      exact r_iret hf hC (by decide) (by decide) dL_tryAbout_10
    | 1, he, hf => have hf : (none : Option (Int32 × Mem)) = some (r, M') := hf; cases hf
    | 2, he, hf => have hf : (none : Option (Int32 × Mem)) = some (r, M') := hf; cases hf
    | n + 3, he, hf => have hf : (none : Option (Int32 × Mem)) = some (r, M') := hf; cases hf
  · rw [hx] at hf
    have hf : some (x, M1) = some (r, M') := hf
    exact r_iret hf hC (by decide) (by decide) dL_tryAbout_5
set_option maxRecDepth 20000 in
theorem c_L_tryAbout {l : Launch} (hl : l.stackTraces = false) {G : GG} {Z : ZZ} (hz : ZOk G Z) (hZ : ZM Z) (v1 : Int32) (M : Mem) (r : Int32) (M' : Mem) (hf : f_L_tryAbout v1 M = some (r, M')) : CW (QcI G Z r M') l G Z yL_tryAbout cL_tryAbout 3 (some .int) [(0, 5, 6, 13)] 7 1 6 [.ref (Z.1 0), .int v1] M :=
  CW.of [(0, .ref (Z.1 0)), (1, .int v1)] hl (by decide +kernel) (Nat.le_of_ble_eq_true rfl) rfl (fun _ hC ht => w_L_tryAbout hC ht hz hZ v1 M hf)
set_option maxRecDepth 20000 in
theorem w_L_tryUndo {X : XX} {G : GG} {Z : ZZ} (hC : Cx X G RL cL_tryUndo (some .int) 7 1 6 2) (ht : (xc X).exceptionTable.toList = tableOf [(0, 4, 5, 15)]) (hz : ZOk G Z) (hZ : ZM Z)  (M : Mem) {r : Int32} {M' : Mem} (hf : f_L_tryUndo  M = some (r, M')) : V X G Z M 0 0 (QN X G (QcI G Z r M') 1 6) 0 [(0, .ref (Z.1 0))] [] := by
  unfold f_L_tryUndo at hf
  refine r_aload_n hC dL_tryUndo_0 0 rfl ?_
  refine r_hcallVI [] (fun r M1 h => c_X5_undo (cx_st hC) hz hZ  _ r M1 h) cs_L_54 hC (z_1 hZ 0 (by decide) rfl) (q0 := (RX5, TX5, 7)) rfl rfl [] rfl rfl rfl (by decide) (by decide) (Nat.le_of_ble_eq_true rfl) (by decide) (by decide) dL_tryUndo_1 (fun h0 => by rw [h0] at hf; cases hf) (fun e M1 he => ?_) (fun x M1 hx => ?_)
  · rw [he] at hf
    match e, he, hf with
    | 0, he, hf => have hf : (none : Option (Int32 × Mem)) = some (r, M') := hf; cases hf
    | 1, he, hf =>
      have hf : some ((-1003 : Int32), M1) = some (r, M') := hf
      refine r_catch (e := 1) hC ht [] ⟨0, 4, 5, 15⟩ [] rfl (by decide +kernel) (by decide) kw_cl_15 kw_cast_1 (by decide) (fun z hz => absurd hz List.not_mem_nil) (fun q => ?_)
      refine r_astore_n (L' := [(1, .ref q), (0, .ref (Z.1 0))]) hC dL_tryUndo_5 (by decide) rfl ?_
      refine r_sipush (v := -1003) hC dL_tryUndo_6 rfl ?_
      exact r_iret hf hC (by decide) (by decide) dL_tryUndo_9
    | 2, he, hf => have hf : (none : Option (Int32 × Mem)) = some (r, M') := hf; cases hf
    | n + 3, he, hf => have hf : (none : Option (Int32 × Mem)) = some (r, M') := hf; cases hf
  · rw [hx] at hf
    have hf : some (x, M1) = some (r, M') := hf
    exact r_iret hf hC (by decide) (by decide) dL_tryUndo_4
set_option maxRecDepth 20000 in
theorem c_L_tryUndo {l : Launch} (hl : l.stackTraces = false) {G : GG} {Z : ZZ} (hz : ZOk G Z) (hZ : ZM Z)  (M : Mem) (r : Int32) (M' : Mem) (hf : f_L_tryUndo  M = some (r, M')) : CW (QcI G Z r M') l G Z yL_tryUndo cL_tryUndo 2 (some .int) [(0, 4, 5, 15)] 7 1 6 [.ref (Z.1 0)] M :=
  CW.of [(0, .ref (Z.1 0))] hl (by decide +kernel) (Nat.le_of_ble_eq_true rfl) rfl (fun _ hC ht => w_L_tryUndo hC ht hz hZ  M hf)
set_option maxRecDepth 20000 in
theorem w_L_tryWhole {X : XX} {G : GG} {Z : ZZ} (hC : Cx X G RL cL_tryWhole (some .int) 8 1 6 3) (ht : (xc X).exceptionTable.toList = tableOf [(0, 5, 6, 13)]) (hz : ZOk G Z) (hZ : ZM Z) (v1 : Int32) (M : Mem) {r : Int32} {M' : Mem} (hf : f_L_tryWhole v1 M = some (r, M')) : V X G Z M 0 0 (QN X G (QcI G Z r M') 1 6) 0 [(0, .ref (Z.1 0)), (1, .int v1)] [] := by
  unfold f_L_tryWhole at hf
  refine r_aload_n hC dL_tryWhole_0 0 rfl ?_
  refine r_iload_n hC dL_tryWhole_1 1 rfl ?_
  refine r_hcallVI [] (fun r M1 h => c_X5_whole (cx_st hC) hz hZ v1 _ r M1 h) cs_L_66 hC (z_1 hZ 0 (by decide) rfl) (q0 := (RX5, TX5, 7)) rfl rfl [.int v1] rfl rfl rfl (by decide) (by decide) (Nat.le_of_ble_eq_true rfl) (by decide) (by decide) dL_tryWhole_2 (fun h0 => by rw [h0] at hf; cases hf) (fun e M1 he => ?_) (fun x M1 hx => ?_)
  · rw [he] at hf
    match e, he, hf with
    | 0, he, hf =>
      have hf : some ((-1002 : Int32), M1) = some (r, M') := hf
      refine r_catch (e := 0) hC ht [] ⟨0, 5, 6, 13⟩ [] rfl (by decide +kernel) (by decide) kw_cl_13 kw_cast_0 (by decide) (fun z hz => absurd hz List.not_mem_nil) (fun q => ?_)
      refine r_astore_n (L' := [(2, .ref q), (0, .ref (Z.1 0)), (1, .int v1)]) hC dL_tryWhole_6 (by decide) rfl ?_
      refine r_sipush (v := -1002) hC dL_tryWhole_7 rfl ?_
      exact r_iret hf hC (by decide) (by decide) dL_tryWhole_10
    | 1, he, hf => have hf : (none : Option (Int32 × Mem)) = some (r, M') := hf; cases hf
    | 2, he, hf => have hf : (none : Option (Int32 × Mem)) = some (r, M') := hf; cases hf
    | n + 3, he, hf => have hf : (none : Option (Int32 × Mem)) = some (r, M') := hf; cases hf
  · rw [hx] at hf
    have hf : some (x, M1) = some (r, M') := hf
    exact r_iret hf hC (by decide) (by decide) dL_tryWhole_5
set_option maxRecDepth 20000 in
theorem c_L_tryWhole {l : Launch} (hl : l.stackTraces = false) {G : GG} {Z : ZZ} (hz : ZOk G Z) (hZ : ZM Z) (v1 : Int32) (M : Mem) (r : Int32) (M' : Mem) (hf : f_L_tryWhole v1 M = some (r, M')) : CW (QcI G Z r M') l G Z yL_tryWhole cL_tryWhole 3 (some .int) [(0, 5, 6, 13)] 8 1 6 [.ref (Z.1 0), .int v1] M :=
  CW.of [(0, .ref (Z.1 0)), (1, .int v1)] hl (by decide +kernel) (Nat.le_of_ble_eq_true rfl) rfl (fun _ hC ht => w_L_tryWhole hC ht hz hZ v1 M hf)
set_option maxRecDepth 20000 in
theorem w_L_trySave {X : XX} {G : GG} {Z : ZZ} (hC : Cx X G RL cL_trySave (some .int) 8 1 6 3) (ht : (xc X).exceptionTable.toList = tableOf [(0, 5, 6, 28)]) (hz : ZOk G Z) (hZ : ZM Z) (v1 : Int32) (M : Mem) {r : Int32} {M' : Mem} (hf : f_L_trySave v1 M = some (r, M')) : V X G Z M 0 0 (QN X G (QcI G Z r M') 1 6) 0 [(0, .ref (Z.1 0)), (1, .int v1)] [] := by
  unfold f_L_trySave at hf
  refine r_aload_n hC dL_trySave_0 0 rfl ?_
  refine r_iload_n hC dL_trySave_1 1 rfl ?_
  refine r_hcallVI [] (fun r M1 h => c_X5_save (cx_st hC) hz hZ v1 _ r M1 h) cs_L_83 hC (z_1 hZ 0 (by decide) rfl) (q0 := (RX5, TX5, 7)) rfl rfl [.int v1] rfl rfl rfl (by decide) (by decide) (Nat.le_of_ble_eq_true rfl) (by decide) (by decide) dL_trySave_2 (fun h0 => by rw [h0] at hf; cases hf) (fun e M1 he => ?_) (fun x M1 hx => ?_)
  · rw [he] at hf
    match e, he, hf with
    | 0, he, hf => have hf : (none : Option (Int32 × Mem)) = some (r, M') := hf; cases hf
    | 1, he, hf => have hf : (none : Option (Int32 × Mem)) = some (r, M') := hf; cases hf
    | 2, he, hf =>
      have hf : some ((-1001 : Int32), M1) = some (r, M') := hf
      refine r_catch (e := 2) hC ht [] ⟨0, 5, 6, 28⟩ [] rfl (by decide +kernel) (by decide) kw_cl_28 kw_cast_2 (by decide) (fun z hz => absurd hz List.not_mem_nil) (fun q => ?_)
      refine r_astore_n (L' := [(2, .ref q), (0, .ref (Z.1 0)), (1, .int v1)]) hC dL_trySave_6 (by decide) rfl ?_
      refine r_sipush (v := -1001) hC dL_trySave_7 rfl ?_
      exact r_iret hf hC (by decide) (by decide) dL_trySave_10
    | n + 3, he, hf => have hf : (none : Option (Int32 × Mem)) = some (r, M') := hf; cases hf
  · rw [hx] at hf
    have hf : some (x, M1) = some (r, M') := hf
    exact r_iret hf hC (by decide) (by decide) dL_trySave_5
set_option maxRecDepth 20000 in
theorem c_L_trySave {l : Launch} (hl : l.stackTraces = false) {G : GG} {Z : ZZ} (hz : ZOk G Z) (hZ : ZM Z) (v1 : Int32) (M : Mem) (r : Int32) (M' : Mem) (hf : f_L_trySave v1 M = some (r, M')) : CW (QcI G Z r M') l G Z yL_trySave cL_trySave 3 (some .int) [(0, 5, 6, 28)] 8 1 6 [.ref (Z.1 0), .int v1] M :=
  CW.of [(0, .ref (Z.1 0)), (1, .int v1)] hl (by decide +kernel) (Nat.le_of_ble_eq_true rfl) rfl (fun _ hC ht => w_L_trySave hC ht hz hZ v1 M hf)
set_option maxRecDepth 20000 in
theorem w_L_tryRestore {X : XX} {G : GG} {Z : ZZ} (hC : Cx X G RL cL_tryRestore (some .int) 8 1 6 3) (ht : (xc X).exceptionTable.toList = tableOf [(0, 5, 6, 28), (0, 5, 11, 15)]) (hz : ZOk G Z) (hZ : ZM Z) (v1 : Int32) (M : Mem) {r : Int32} {M' : Mem} (hf : f_L_tryRestore v1 M = some (r, M')) : V X G Z M 0 0 (QN X G (QcI G Z r M') 1 6) 0 [(0, .ref (Z.1 0)), (1, .int v1)] [] := by
  unfold f_L_tryRestore at hf
  refine r_aload_n hC dL_tryRestore_0 0 rfl ?_
  refine r_iload_n hC dL_tryRestore_1 1 rfl ?_
  refine r_hcallVI [] (fun r M1 h => c_X5_restore (cx_st hC) hz hZ v1 _ r M1 h) cs_L_86 hC (z_1 hZ 0 (by decide) rfl) (q0 := (RX5, TX5, 7)) rfl rfl [.int v1] rfl rfl rfl (by decide) (by decide) (Nat.le_of_ble_eq_true rfl) (by decide) (by decide) dL_tryRestore_2 (fun h0 => by rw [h0] at hf; cases hf) (fun e M1 he => ?_) (fun x M1 hx => ?_)
  · rw [he] at hf
    match e, he, hf with
    | 0, he, hf => have hf : (none : Option (Int32 × Mem)) = some (r, M') := hf; cases hf
    | 1, he, hf =>
      have hf : some ((-1003 : Int32), M1) = some (r, M') := hf
      refine r_catch (e := 1) hC ht [⟨0, 5, 6, 28⟩] ⟨0, 5, 11, 15⟩ [] rfl (by decide +kernel) (by decide) kw_cl_15 kw_cast_1 (by decide) (List.forall_mem_cons.mpr ⟨⟨by decide, 2, by decide, by decide, kw_cl_28⟩, fun z hz => absurd hz List.not_mem_nil⟩) (fun q => ?_)
      refine r_astore_n (L' := [(2, .ref q), (0, .ref (Z.1 0)), (1, .int v1)]) hC dL_tryRestore_11 (by decide) rfl ?_
      refine r_sipush (v := -1003) hC dL_tryRestore_12 rfl ?_
      exact r_iret hf hC (by decide) (by decide) dL_tryRestore_15
    | 2, he, hf =>
      have hf : some ((-1001 : Int32), M1) = some (r, M') := hf
      refine r_catch (e := 2) hC ht [] ⟨0, 5, 6, 28⟩ [⟨0, 5, 11, 15⟩] rfl (by decide +kernel) (by decide) kw_cl_28 kw_cast_2 (by decide) (fun z hz => absurd hz List.not_mem_nil) (fun q => ?_)
      refine r_astore_n (L' := [(2, .ref q), (0, .ref (Z.1 0)), (1, .int v1)]) hC dL_tryRestore_6 (by decide) rfl ?_
      refine r_sipush (v := -1001) hC dL_tryRestore_7 rfl ?_
      exact r_iret hf hC (by decide) (by decide) dL_tryRestore_10
    | n + 3, he, hf => have hf : (none : Option (Int32 × Mem)) = some (r, M') := hf; cases hf
  · rw [hx] at hf
    have hf : some (x, M1) = some (r, M') := hf
    exact r_iret hf hC (by decide) (by decide) dL_tryRestore_5
set_option maxRecDepth 20000 in
theorem c_L_tryRestore {l : Launch} (hl : l.stackTraces = false) {G : GG} {Z : ZZ} (hz : ZOk G Z) (hZ : ZM Z) (v1 : Int32) (M : Mem) (r : Int32) (M' : Mem) (hf : f_L_tryRestore v1 M = some (r, M')) : CW (QcI G Z r M') l G Z yL_tryRestore cL_tryRestore 3 (some .int) [(0, 5, 6, 28), (0, 5, 11, 15)] 8 1 6 [.ref (Z.1 0), .int v1] M :=
  CW.of [(0, .ref (Z.1 0)), (1, .int v1)] hl (by decide +kernel) (Nat.le_of_ble_eq_true rfl) rfl (fun _ hC ht => w_L_tryRestore hC ht hz hZ v1 M hf)
set_option maxRecDepth 20000 in
theorem w_L_tryAppend {X : XX} {G : GG} {Z : ZZ} (hC : Cx X G RL cL_tryAppend (some .int) 7 1 6 3) (ht : (xc X).exceptionTable.toList = tableOf [(0, 5, 6, 13), (0, 5, 11, 15)]) (hz : ZOk G Z) (hZ : ZM Z) (v1 : Int32) (M : Mem) {r : Int32} {M' : Mem} (hf : f_L_tryAppend v1 M = some (r, M')) : V X G Z M 0 0 (QN X G (QcI G Z r M') 1 6) 0 [(0, .ref (Z.1 0)), (1, .int v1)] [] := by
  unfold f_L_tryAppend at hf
  refine r_aload_n hC dL_tryAppend_0 0 rfl ?_
  refine r_iload_n hC dL_tryAppend_1 1 rfl ?_
  refine r_hcallVI [] (fun r M1 h => c_X5_append (cx_st hC) hz hZ v1 _ r M1 h) cs_L_7 hC (z_1 hZ 0 (by decide) rfl) (q0 := (RX5, TX5, 7)) rfl rfl [.int v1] rfl rfl rfl (by decide) (by decide) (Nat.le_of_ble_eq_true rfl) (by decide) (by decide) dL_tryAppend_2 (fun h0 => by rw [h0] at hf; cases hf) (fun e M1 he => ?_) (fun x M1 hx => ?_)
  · rw [he] at hf
    match e, he, hf with
    | 0, he, hf =>
      have hf : some ((-1002 : Int32), M1) = some (r, M') := hf
      refine r_catch (e := 0) hC ht [] ⟨0, 5, 6, 13⟩ [⟨0, 5, 11, 15⟩] rfl (by decide +kernel) (by decide) kw_cl_13 kw_cast_0 (by decide) (fun z hz => absurd hz List.not_mem_nil) (fun q => ?_)
      refine r_astore_n (L' := [(2, .ref q), (0, .ref (Z.1 0)), (1, .int v1)]) hC dL_tryAppend_6 (by decide) rfl ?_
      refine r_sipush (v := -1002) hC dL_tryAppend_7 rfl ?_
      exact r_iret hf hC (by decide) (by decide) dL_tryAppend_10
    | 1, he, hf =>
      have hf : some ((-1003 : Int32), M1) = some (r, M') := hf
      refine r_catch (e := 1) hC ht [⟨0, 5, 6, 13⟩] ⟨0, 5, 11, 15⟩ [] rfl (by decide +kernel) (by decide) kw_cl_15 kw_cast_1 (by decide) (List.forall_mem_cons.mpr ⟨⟨by decide, 0, by decide, by decide, kw_cl_13⟩, fun z hz => absurd hz List.not_mem_nil⟩) (fun q => ?_)
      refine r_astore_n (L' := [(2, .ref q), (0, .ref (Z.1 0)), (1, .int v1)]) hC dL_tryAppend_11 (by decide) rfl ?_
      refine r_sipush (v := -1003) hC dL_tryAppend_12 rfl ?_
      exact r_iret hf hC (by decide) (by decide) dL_tryAppend_15
    | 2, he, hf => have hf : (none : Option (Int32 × Mem)) = some (r, M') := hf; cases hf
    | n + 3, he, hf => have hf : (none : Option (Int32 × Mem)) = some (r, M') := hf; cases hf
  · rw [hx] at hf
    have hf : some (x, M1) = some (r, M') := hf
    exact r_iret hf hC (by decide) (by decide) dL_tryAppend_5
set_option maxRecDepth 20000 in
theorem c_L_tryAppend {l : Launch} (hl : l.stackTraces = false) {G : GG} {Z : ZZ} (hz : ZOk G Z) (hZ : ZM Z) (v1 : Int32) (M : Mem) (r : Int32) (M' : Mem) (hf : f_L_tryAppend v1 M = some (r, M')) : CW (QcI G Z r M') l G Z yL_tryAppend cL_tryAppend 3 (some .int) [(0, 5, 6, 13), (0, 5, 11, 15)] 7 1 6 [.ref (Z.1 0), .int v1] M :=
  CW.of [(0, .ref (Z.1 0)), (1, .int v1)] hl (by decide +kernel) (Nat.le_of_ble_eq_true rfl) rfl (fun _ hC ht => w_L_tryAppend hC ht hz hZ v1 M hf)
set_option maxRecDepth 20000 in
theorem w_L_tryLoad {X : XX} {G : GG} {Z : ZZ} (hC : Cx X G RL cL_tryLoad (some .int) 7 1 6 2) (ht : (xc X).exceptionTable.toList = tableOf [(0, 4, 5, 15)]) (hz : ZOk G Z) (hZ : ZM Z)  (M : Mem) {r : Int32} {M' : Mem} (hf : f_L_tryLoad  M = some (r, M')) : V X G Z M 0 0 (QN X G (QcI G Z r M') 1 6) 0 [(0, .ref (Z.1 0))] [] := by
  unfold f_L_tryLoad at hf
  refine r_aload_n hC dL_tryLoad_0 0 rfl ?_
  refine r_hcallVI [] (fun r M1 h => c_X5_load (cx_st hC) hz hZ  _ r M1 h) cs_L_17 hC (z_1 hZ 0 (by decide) rfl) (q0 := (RX5, TX5, 7)) rfl rfl [] rfl rfl rfl (by decide) (by decide) (Nat.le_of_ble_eq_true rfl) (by decide) (by decide) dL_tryLoad_1 (fun h0 => by rw [h0] at hf; cases hf) (fun e M1 he => ?_) (fun x M1 hx => ?_)
  · rw [he] at hf
    match e, he, hf with
    | 0, he, hf => have hf : (none : Option (Int32 × Mem)) = some (r, M') := hf; cases hf
    | 1, he, hf =>
      have hf : some ((-1003 : Int32), M1) = some (r, M') := hf
      refine r_catch (e := 1) hC ht [] ⟨0, 4, 5, 15⟩ [] rfl (by decide +kernel) (by decide) kw_cl_15 kw_cast_1 (by decide) (fun z hz => absurd hz List.not_mem_nil) (fun q => ?_)
      refine r_astore_n (L' := [(1, .ref q), (0, .ref (Z.1 0))]) hC dL_tryLoad_5 (by decide) rfl ?_
      refine r_sipush (v := -1003) hC dL_tryLoad_6 rfl ?_
      exact r_iret hf hC (by decide) (by decide) dL_tryLoad_9
    | 2, he, hf => have hf : (none : Option (Int32 × Mem)) = some (r, M') := hf; cases hf
    | n + 3, he, hf => have hf : (none : Option (Int32 × Mem)) = some (r, M') := hf; cases hf
  · rw [hx] at hf
    have hf : some (x, M1) = some (r, M') := hf
    exact r_iret hf hC (by decide) (by decide) dL_tryLoad_4
set_option maxRecDepth 20000 in
theorem c_L_tryLoad {l : Launch} (hl : l.stackTraces = false) {G : GG} {Z : ZZ} (hz : ZOk G Z) (hZ : ZM Z)  (M : Mem) (r : Int32) (M' : Mem) (hf : f_L_tryLoad  M = some (r, M')) : CW (QcI G Z r M') l G Z yL_tryLoad cL_tryLoad 2 (some .int) [(0, 4, 5, 15)] 7 1 6 [.ref (Z.1 0)] M :=
  CW.of [(0, .ref (Z.1 0))] hl (by decide +kernel) (Nat.le_of_ble_eq_true rfl) rfl (fun _ hC ht => w_L_tryLoad hC ht hz hZ  M hf)
set_option maxRecDepth 20000 in
theorem w_L_tryCell {X : XX} {G : GG} {Z : ZZ} (hC : Cx X G RL cL_tryCell (some .int) 9 1 6 5) (ht : (xc X).exceptionTable.toList = tableOf [(0, 7, 8, 28)]) (hz : ZOk G Z) (hZ : ZM Z) (v1 : Int32) (v2 : Int32) (v3 : Int32) (M : Mem) {r : Int32} {M' : Mem} (hf : f_L_tryCell v1 v2 v3 M = some (r, M')) : V X G Z M 0 0 (QN X G (QcI G Z r M') 1 6) 0 [(0, .ref (Z.1 0)), (1, .int v1), (2, .int v2), (3, .int v3)] [] := by
  unfold f_L_tryCell at hf
  refine r_aload_n hC dL_tryCell_0 0 rfl ?_
  refine r_iload_n hC dL_tryCell_1 1 rfl ?_
  refine r_iload_n hC dL_tryCell_2 2 rfl ?_
  refine r_iload_n hC dL_tryCell_3 3 rfl ?_
  refine r_hcallVI [] (fun r M1 h => c_X5_cell (cx_st hC) hz hZ v1 v2 v3 _ r M1 h) cs_L_24 hC (z_1 hZ 0 (by decide) rfl) (q0 := (RX5, TX5, 7)) rfl rfl [.int v1, .int v2, .int v3] rfl rfl rfl (by decide) (by decide) (Nat.le_of_ble_eq_true rfl) (by decide) (by decide) dL_tryCell_4 (fun h0 => by rw [h0] at hf; cases hf) (fun e M1 he => ?_) (fun x M1 hx => ?_)
  · rw [he] at hf
    match e, he, hf with
    | 0, he, hf => have hf : (none : Option (Int32 × Mem)) = some (r, M') := hf; cases hf
    | 1, he, hf => have hf : (none : Option (Int32 × Mem)) = some (r, M') := hf; cases hf
    | 2, he, hf =>
      have hf : some ((-1001 : Int32), M1) = some (r, M') := hf
      refine r_catch (e := 2) hC ht [] ⟨0, 7, 8, 28⟩ [] rfl (by decide +kernel) (by decide) kw_cl_28 kw_cast_2 (by decide) (fun z hz => absurd hz List.not_mem_nil) (fun q => ?_)
      refine r_astore (L' := [(4, .ref q), (0, .ref (Z.1 0)), (1, .int v1), (2, .int v2), (3, .int v3)]) hC dL_tryCell_8 (by decide) rfl ?_
      refine r_sipush (v := -1001) hC dL_tryCell_10 rfl ?_
      exact r_iret hf hC (by decide) (by decide) dL_tryCell_13
    | n + 3, he, hf => have hf : (none : Option (Int32 × Mem)) = some (r, M') := hf; cases hf
  · rw [hx] at hf
    have hf : some (x, M1) = some (r, M') := hf
    exact r_iret hf hC (by decide) (by decide) dL_tryCell_7
set_option maxRecDepth 20000 in
theorem c_L_tryCell {l : Launch} (hl : l.stackTraces = false) {G : GG} {Z : ZZ} (hz : ZOk G Z) (hZ : ZM Z) (v1 : Int32) (v2 : Int32) (v3 : Int32) (M : Mem) (r : Int32) (M' : Mem) (hf : f_L_tryCell v1 v2 v3 M = some (r, M')) : CW (QcI G Z r M') l G Z yL_tryCell cL_tryCell 5 (some .int) [(0, 7, 8, 28)] 9 1 6 [.ref (Z.1 0), .int v1, .int v2, .int v3] M :=
  CW.of [(0, .ref (Z.1 0)), (1, .int v1), (2, .int v2), (3, .int v3)] hl (by decide +kernel) (Nat.le_of_ble_eq_true rfl) rfl (fun _ hC ht => w_L_tryCell hC ht hz hZ v1 v2 v3 M hf)
set_option maxRecDepth 20000 in
theorem w_L_trySet {X : XX} {G : GG} {Z : ZZ} (hC : Cx X G RL cL_trySet (some .int) 7 1 6 4) (ht : (xc X).exceptionTable.toList = tableOf [(0, 6, 7, 13)]) (hz : ZOk G Z) (hZ : ZM Z) (v1 : Int32) (v2 : Int32) (M : Mem) {r : Int32} {M' : Mem} (hf : f_L_trySet v1 v2 M = some (r, M')) : V X G Z M 0 0 (QN X G (QcI G Z r M') 1 6) 0 [(0, .ref (Z.1 0)), (1, .int v1), (2, .int v2)] [] := by
  unfold f_L_trySet at hf
  refine r_aload_n hC dL_trySet_0 0 rfl ?_
  refine r_iload_n hC dL_trySet_1 1 rfl ?_
  refine r_iload_n hC dL_trySet_2 2 rfl ?_
  refine r_hcallVI [] (fun r M1 h => c_X5_set (cx_st hC) hz hZ v1 v2 _ r M1 h) cs_L_30 hC (z_1 hZ 0 (by decide) rfl) (q0 := (RX5, TX5, 7)) rfl rfl [.int v1, .int v2] rfl rfl rfl (by decide) (by decide) (Nat.le_of_ble_eq_true rfl) (by decide) (by decide) dL_trySet_3 (fun h0 => by rw [h0] at hf; cases hf) (fun e M1 he => ?_) (fun x M1 hx => ?_)
  · rw [he] at hf
    match e, he, hf with
    | 0, he, hf =>
      have hf : some ((-1002 : Int32), M1) = some (r, M') := hf
      refine r_catch (e := 0) hC ht [] ⟨0, 6, 7, 13⟩ [] rfl (by decide +kernel) (by decide) kw_cl_13 kw_cast_0 (by decide) (fun z hz => absurd hz List.not_mem_nil) (fun q => ?_)
      refine r_astore_n (L' := [(3, .ref q), (0, .ref (Z.1 0)), (1, .int v1), (2, .int v2)]) hC dL_trySet_7 (by decide) rfl ?_
      refine r_sipush (v := -1002) hC dL_trySet_8 rfl ?_
      exact r_iret hf hC (by decide) (by decide) dL_trySet_11
    | 1, he, hf => have hf : (none : Option (Int32 × Mem)) = some (r, M') := hf; cases hf
    | 2, he, hf => have hf : (none : Option (Int32 × Mem)) = some (r, M') := hf; cases hf
    | n + 3, he, hf => have hf : (none : Option (Int32 × Mem)) = some (r, M') := hf; cases hf
  · rw [hx] at hf
    have hf : some (x, M1) = some (r, M') := hf
    exact r_iret hf hC (by decide) (by decide) dL_trySet_6
set_option maxRecDepth 20000 in
theorem c_L_trySet {l : Launch} (hl : l.stackTraces = false) {G : GG} {Z : ZZ} (hz : ZOk G Z) (hZ : ZM Z) (v1 : Int32) (v2 : Int32) (M : Mem) (r : Int32) (M' : Mem) (hf : f_L_trySet v1 v2 M = some (r, M')) : CW (QcI G Z r M') l G Z yL_trySet cL_trySet 4 (some .int) [(0, 6, 7, 13)] 7 1 6 [.ref (Z.1 0), .int v1, .int v2] M :=
  CW.of [(0, .ref (Z.1 0)), (1, .int v1), (2, .int v2)] hl (by decide +kernel) (Nat.le_of_ble_eq_true rfl) rfl (fun _ hC ht => w_L_trySet hC ht hz hZ v1 v2 M hf)
set_option maxRecDepth 20000 in
theorem w_L_tryWrite {X : XX} {G : GG} {Z : ZZ} (hC : Cx X G RL cL_tryWrite (some .int) 9 1 6 5) (ht : (xc X).exceptionTable.toList = tableOf [(0, 7, 8, 28), (0, 7, 14, 13), (0, 7, 20, 15)]) (hz : ZOk G Z) (hZ : ZM Z) (v1 : Int32) (v2 : Int32) (v3 : Int32) (M : Mem) {r : Int32} {M' : Mem} (hf : f_L_tryWrite v1 v2 v3 M = some (r, M')) : V X G Z M 0 0 (QN X G (QcI G Z r M') 1 6) 0 [(0, .ref (Z.1 0)), (1, .int v1), (2, .int v2), (3, .int v3)] [] := by
  unfold f_L_tryWrite at hf
  refine r_aload_n hC dL_tryWrite_0 0 rfl ?_
  refine r_iload_n hC dL_tryWrite_1 1 rfl ?_
  refine r_iload_n hC dL_tryWrite_2 2 rfl ?_
  refine r_iload_n hC dL_tryWrite_3 3 rfl ?_
  refine r_hcallVI [] (fun r M1 h => c_X5_write (cx_st hC) hz hZ v1 v2 v3 _ r M1 h) cs_L_34 hC (z_1 hZ 0 (by decide) rfl) (q0 := (RX5, TX5, 7)) rfl rfl [.int v1, .int v2, .int v3] rfl rfl rfl (by decide) (by decide) (Nat.le_of_ble_eq_true rfl) (by decide) (by decide) dL_tryWrite_4 (fun h0 => by rw [h0] at hf; cases hf) (fun e M1 he => ?_) (fun x M1 hx => ?_)
  · rw [he] at hf
    match e, he, hf with
    | 0, he, hf =>
      have hf : some ((-1002 : Int32), M1) = some (r, M') := hf
      refine r_catch (e := 0) hC ht [⟨0, 7, 8, 28⟩] ⟨0, 7, 14, 13⟩ [⟨0, 7, 20, 15⟩] rfl (by decide +kernel) (by decide) kw_cl_13 kw_cast_0 (by decide) (List.forall_mem_cons.mpr ⟨⟨by decide, 2, by decide, by decide, kw_cl_28⟩, fun z hz => absurd hz List.not_mem_nil⟩) (fun q => ?_)
      refine r_astore (L' := [(4, .ref q), (0, .ref (Z.1 0)), (1, .int v1), (2, .int v2), (3, .int v3)]) hC dL_tryWrite_14 (by decide) rfl ?_
      refine r_sipush (v := -1002) hC dL_tryWrite_16 rfl ?_
      exact r_iret hf hC (by decide) (by decide) dL_tryWrite_19
    | 1, he, hf =>
      have hf : some ((-1003 : Int32), M1) = some (r, M') := hf
      refine r_catch (e := 1) hC ht [⟨0, 7, 8, 28⟩, ⟨0, 7, 14, 13⟩] ⟨0, 7, 20, 15⟩ [] rfl (by decide +kernel) (by decide) kw_cl_15 kw_cast_1 (by decide) (List.forall_mem_cons.mpr ⟨⟨by decide, 2, by decide, by decide, kw_cl_28⟩, List.forall_mem_cons.mpr ⟨⟨by decide, 0, by decide, by decide, kw_cl_13⟩, fun z hz => absurd hz List.not_mem_nil⟩⟩) (fun q => ?_)
      refine r_astore (L' := [(4, .ref q), (0, .ref (Z.1 0)), (1, .int v1), (2, .int v2), (3, .int v3)]) hC dL_tryWrite_20 (by decide) rfl ?_
      refine r_sipush (v := -1003) hC dL_tryWrite_22 rfl ?_
      exact r_iret hf hC (by decide) (by decide) dL_tryWrite_25
    | 2, he, hf =>
      have hf : some ((-1001 : Int32), M1) = some (r, M') := hf
      refine r_catch (e := 2) hC ht [] ⟨0, 7, 8, 28⟩ [⟨0, 7, 14, 13⟩, ⟨0, 7, 20, 15⟩] rfl (by decide +kernel) (by decide) kw_cl_28 kw_cast_2 (by decide) (fun z hz => absurd hz List.not_mem_nil) (fun q => ?_)
      refine r_astore (L' := [(4, .ref q), (0, .ref (Z.1 0)), (1, .int v1), (2, .int v2), (3, .int v3)]) hC dL_tryWrite_8 (by decide) rfl ?_
      refine r_sipush (v := -1001) hC dL_tryWrite_10 rfl ?_
      exact r_iret hf hC (by decide) (by decide) dL_tryWrite_13
    | n + 3, he, hf => have hf : (none : Option (Int32 × Mem)) = some (r, M') := hf; cases hf
  · rw [hx] at hf
    have hf : some (x, M1) = some (r, M') := hf
    exact r_iret hf hC (by decide) (by decide) dL_tryWrite_7
set_option maxRecDepth 20000 in
theorem c_L_tryWrite {l : Launch} (hl : l.stackTraces = false) {G : GG} {Z : ZZ} (hz : ZOk G Z) (hZ : ZM Z) (v1 : Int32) (v2 : Int32) (v3 : Int32) (M : Mem) (r : Int32) (M' : Mem) (hf : f_L_tryWrite v1 v2 v3 M = some (r, M')) : CW (QcI G Z r M') l G Z yL_tryWrite cL_tryWrite 5 (some .int) [(0, 7, 8, 28), (0, 7, 14, 13), (0, 7, 20, 15)] 9 1 6 [.ref (Z.1 0), .int v1, .int v2, .int v3] M :=
  CW.of [(0, .ref (Z.1 0)), (1, .int v1), (2, .int v2), (3, .int v3)] hl (by decide +kernel) (Nat.le_of_ble_eq_true rfl) rfl (fun _ hC ht => w_L_tryWrite hC ht hz hZ v1 v2 v3 M hf)
set_option maxRecDepth 20000 in
theorem w_L_tryTranspose {X : XX} {G : GG} {Z : ZZ} (hC : Cx X G RL cL_tryTranspose (some .int) 8 1 6 4) (ht : (xc X).exceptionTable.toList = tableOf [(0, 6, 7, 28), (0, 6, 12, 13), (0, 6, 17, 15)]) (hz : ZOk G Z) (hZ : ZM Z) (v1 : Int32) (v2 : Int32) (M : Mem) {r : Int32} {M' : Mem} (hf : f_L_tryTranspose v1 v2 M = some (r, M')) : V X G Z M 0 0 (QN X G (QcI G Z r M') 1 6) 0 [(0, .ref (Z.1 0)), (1, .int v1), (2, .int v2)] [] := by
  unfold f_L_tryTranspose at hf
  refine r_aload_n hC dL_tryTranspose_0 0 rfl ?_
  refine r_iload_n hC dL_tryTranspose_1 1 rfl ?_
  refine r_iload_n hC dL_tryTranspose_2 2 rfl ?_
  refine r_hcallVI [] (fun r M1 h => c_X5_transpose (cx_st hC) hz hZ v1 v2 _ r M1 h) cs_L_38 hC (z_1 hZ 0 (by decide) rfl) (q0 := (RX5, TX5, 7)) rfl rfl [.int v1, .int v2] rfl rfl rfl (by decide) (by decide) (Nat.le_of_ble_eq_true rfl) (by decide) (by decide) dL_tryTranspose_3 (fun h0 => by rw [h0] at hf; cases hf) (fun e M1 he => ?_) (fun x M1 hx => ?_)
  · rw [he] at hf
    match e, he, hf with
    | 0, he, hf =>
      have hf : some ((-1002 : Int32), M1) = some (r, M') := hf
      refine r_catch (e := 0) hC ht [⟨0, 6, 7, 28⟩] ⟨0, 6, 12, 13⟩ [⟨0, 6, 17, 15⟩] rfl (by decide +kernel) (by decide) kw_cl_13 kw_cast_0 (by decide) (List.forall_mem_cons.mpr ⟨⟨by decide, 2, by decide, by decide, kw_cl_28⟩, fun z hz => absurd hz List.not_mem_nil⟩) (fun q => ?_)
      refine r_astore_n (L' := [(3, .ref q), (0, .ref (Z.1 0)), (1, .int v1), (2, .int v2)]) hC dL_tryTranspose_12 (by decide) rfl ?_
      refine r_sipush (v := -1002) hC dL_tryTranspose_13 rfl ?_
      exact r_iret hf hC (by decide) (by decide) dL_tryTranspose_16
    | 1, he, hf =>
      have hf : some ((-1003 : Int32), M1) = some (r, M') := hf
      refine r_catch (e := 1) hC ht [⟨0, 6, 7, 28⟩, ⟨0, 6, 12, 13⟩] ⟨0, 6, 17, 15⟩ [] rfl (by decide +kernel) (by decide) kw_cl_15 kw_cast_1 (by decide) (List.forall_mem_cons.mpr ⟨⟨by decide, 2, by decide, by decide, kw_cl_28⟩, List.forall_mem_cons.mpr ⟨⟨by decide, 0, by decide, by decide, kw_cl_13⟩, fun z hz => absurd hz List.not_mem_nil⟩⟩) (fun q => ?_)
      refine r_astore_n (L' := [(3, .ref q), (0, .ref (Z.1 0)), (1, .int v1), (2, .int v2)]) hC dL_tryTranspose_17 (by decide) rfl ?_
      refine r_sipush (v := -1003) hC dL_tryTranspose_18 rfl ?_
      exact r_iret hf hC (by decide) (by decide) dL_tryTranspose_21
    | 2, he, hf =>
      have hf : some ((-1001 : Int32), M1) = some (r, M') := hf
      refine r_catch (e := 2) hC ht [] ⟨0, 6, 7, 28⟩ [⟨0, 6, 12, 13⟩, ⟨0, 6, 17, 15⟩] rfl (by decide +kernel) (by decide) kw_cl_28 kw_cast_2 (by decide) (fun z hz => absurd hz List.not_mem_nil) (fun q => ?_)
      refine r_astore_n (L' := [(3, .ref q), (0, .ref (Z.1 0)), (1, .int v1), (2, .int v2)]) hC dL_tryTranspose_7 (by decide) rfl ?_
      refine r_sipush (v := -1001) hC dL_tryTranspose_8 rfl ?_
      exact r_iret hf hC (by decide) (by decide) dL_tryTranspose_11
    | n + 3, he, hf => have hf : (none : Option (Int32 × Mem)) = some (r, M') := hf; cases hf
  · rw [hx] at hf
    have hf : some (x, M1) = some (r, M') := hf
    exact r_iret hf hC (by decide) (by decide) dL_tryTranspose_6
set_option maxRecDepth 20000 in
theorem c_L_tryTranspose {l : Launch} (hl : l.stackTraces = false) {G : GG} {Z : ZZ} (hz : ZOk G Z) (hZ : ZM Z) (v1 : Int32) (v2 : Int32) (M : Mem) (r : Int32) (M' : Mem) (hf : f_L_tryTranspose v1 v2 M = some (r, M')) : CW (QcI G Z r M') l G Z yL_tryTranspose cL_tryTranspose 4 (some .int) [(0, 6, 7, 28), (0, 6, 12, 13), (0, 6, 17, 15)] 8 1 6 [.ref (Z.1 0), .int v1, .int v2] M :=
  CW.of [(0, .ref (Z.1 0)), (1, .int v1), (2, .int v2)] hl (by decide +kernel) (Nat.le_of_ble_eq_true rfl) rfl (fun _ hC ht => w_L_tryTranspose hC ht hz hZ v1 v2 M hf)
set_option maxRecDepth 20000 in
theorem w_L_tryExchange {X : XX} {G : GG} {Z : ZZ} (hC : Cx X G RL cL_tryExchange (some .int) 8 1 6 4) (ht : (xc X).exceptionTable.toList = tableOf [(0, 6, 7, 28)]) (hz : ZOk G Z) (hZ : ZM Z) (v1 : Int32) (v2 : Int32) (M : Mem) {r : Int32} {M' : Mem} (hf : f_L_tryExchange v1 v2 M = some (r, M')) : V X G Z M 0 0 (QN X G (QcI G Z r M') 1 6) 0 [(0, .ref (Z.1 0)), (1, .int v1), (2, .int v2)] [] := by
  unfold f_L_tryExchange at hf
  refine r_aload_n hC dL_tryExchange_0 0 rfl ?_
  refine r_iload_n hC dL_tryExchange_1 1 rfl ?_
  refine r_iload_n hC dL_tryExchange_2 2 rfl ?_
  refine r_hcallVI [] (fun r M1 h => c_X5_exchange (cx_st hC) hz hZ v1 v2 _ r M1 h) cs_L_41 hC (z_1 hZ 0 (by decide) rfl) (q0 := (RX5, TX5, 7)) rfl rfl [.int v1, .int v2] rfl rfl rfl (by decide) (by decide) (Nat.le_of_ble_eq_true rfl) (by decide) (by decide) dL_tryExchange_3 (fun h0 => by rw [h0] at hf; cases hf) (fun e M1 he => ?_) (fun x M1 hx => ?_)
  · rw [he] at hf
    match e, he, hf with
    | 0, he, hf => have hf : (none : Option (Int32 × Mem)) = some (r, M') := hf; cases hf
    | 1, he, hf => have hf : (none : Option (Int32 × Mem)) = some (r, M') := hf; cases hf
    | 2, he, hf =>
      have hf : some ((-1001 : Int32), M1) = some (r, M') := hf
      refine r_catch (e := 2) hC ht [] ⟨0, 6, 7, 28⟩ [] rfl (by decide +kernel) (by decide) kw_cl_28 kw_cast_2 (by decide) (fun z hz => absurd hz List.not_mem_nil) (fun q => ?_)
      refine r_astore_n (L' := [(3, .ref q), (0, .ref (Z.1 0)), (1, .int v1), (2, .int v2)]) hC dL_tryExchange_7 (by decide) rfl ?_
      refine r_sipush (v := -1001) hC dL_tryExchange_8 rfl ?_
      exact r_iret hf hC (by decide) (by decide) dL_tryExchange_11
    | n + 3, he, hf => have hf : (none : Option (Int32 × Mem)) = some (r, M') := hf; cases hf
  · rw [hx] at hf
    have hf : some (x, M1) = some (r, M') := hf
    exact r_iret hf hC (by decide) (by decide) dL_tryExchange_6
set_option maxRecDepth 20000 in
theorem c_L_tryExchange {l : Launch} (hl : l.stackTraces = false) {G : GG} {Z : ZZ} (hz : ZOk G Z) (hZ : ZM Z) (v1 : Int32) (v2 : Int32) (M : Mem) (r : Int32) (M' : Mem) (hf : f_L_tryExchange v1 v2 M = some (r, M')) : CW (QcI G Z r M') l G Z yL_tryExchange cL_tryExchange 4 (some .int) [(0, 6, 7, 28)] 8 1 6 [.ref (Z.1 0), .int v1, .int v2] M :=
  CW.of [(0, .ref (Z.1 0)), (1, .int v1), (2, .int v2)] hl (by decide +kernel) (Nat.le_of_ble_eq_true rfl) rfl (fun _ hC ht => w_L_tryExchange hC ht hz hZ v1 v2 M hf)
set_option maxRecDepth 20000 in
theorem w_L_tryStaff {X : XX} {G : GG} {Z : ZZ} (hC : Cx X G RL cL_tryStaff (some .int) 7 1 6 3) (ht : (xc X).exceptionTable.toList = tableOf [(0, 5, 6, 15)]) (hz : ZOk G Z) (hZ : ZM Z) (v1 : Int32) (M : Mem) {r : Int32} {M' : Mem} (hf : f_L_tryStaff v1 M = some (r, M')) : V X G Z M 0 0 (QN X G (QcI G Z r M') 1 6) 0 [(0, .ref (Z.1 0)), (1, .int v1)] [] := by
  unfold f_L_tryStaff at hf
  refine r_aload_n hC dL_tryStaff_0 0 rfl ?_
  refine r_iload_n hC dL_tryStaff_1 1 rfl ?_
  refine r_hcallVI [] (fun r M1 h => c_X5_staff (cx_st hC) hz hZ v1 _ r M1 h) cs_L_44 hC (z_1 hZ 0 (by decide) rfl) (q0 := (RX5, TX5, 7)) rfl rfl [.int v1] rfl rfl rfl (by decide) (by decide) (Nat.le_of_ble_eq_true rfl) (by decide) (by decide) dL_tryStaff_2 (fun h0 => by rw [h0] at hf; cases hf) (fun e M1 he => ?_) (fun x M1 hx => ?_)
  · rw [he] at hf
    match e, he, hf with
    | 0, he, hf => have hf : (none : Option (Int32 × Mem)) = some (r, M') := hf; cases hf
    | 1, he, hf =>
      have hf : some ((-1003 : Int32), M1) = some (r, M') := hf
      refine r_catch (e := 1) hC ht [] ⟨0, 5, 6, 15⟩ [] rfl (by decide +kernel) (by decide) kw_cl_15 kw_cast_1 (by decide) (fun z hz => absurd hz List.not_mem_nil) (fun q => ?_)
      refine r_astore_n (L' := [(2, .ref q), (0, .ref (Z.1 0)), (1, .int v1)]) hC dL_tryStaff_6 (by decide) rfl ?_
      refine r_sipush (v := -1003) hC dL_tryStaff_7 rfl ?_
      exact r_iret hf hC (by decide) (by decide) dL_tryStaff_10
    | 2, he, hf => have hf : (none : Option (Int32 × Mem)) = some (r, M') := hf; cases hf
    | n + 3, he, hf => have hf : (none : Option (Int32 × Mem)) = some (r, M') := hf; cases hf
  · rw [hx] at hf
    have hf : some (x, M1) = some (r, M') := hf
    exact r_iret hf hC (by decide) (by decide) dL_tryStaff_5
set_option maxRecDepth 20000 in
theorem c_L_tryStaff {l : Launch} (hl : l.stackTraces = false) {G : GG} {Z : ZZ} (hz : ZOk G Z) (hZ : ZM Z) (v1 : Int32) (M : Mem) (r : Int32) (M' : Mem) (hf : f_L_tryStaff v1 M = some (r, M')) : CW (QcI G Z r M') l G Z yL_tryStaff cL_tryStaff 3 (some .int) [(0, 5, 6, 15)] 7 1 6 [.ref (Z.1 0), .int v1] M :=
  CW.of [(0, .ref (Z.1 0)), (1, .int v1)] hl (by decide +kernel) (Nat.le_of_ble_eq_true rfl) rfl (fun _ hC ht => w_L_tryStaff hC ht hz hZ v1 M hf)
set_option maxRecDepth 20000 in
theorem w_L_tryInsertBeat {X : XX} {G : GG} {Z : ZZ} (hC : Cx X G RL cL_tryInsertBeat (some .int) 7 1 6 3) (ht : (xc X).exceptionTable.toList = tableOf [(0, 5, 6, 28), (0, 5, 11, 15)]) (hz : ZOk G Z) (hZ : ZM Z) (v1 : Int32) (M : Mem) {r : Int32} {M' : Mem} (hf : f_L_tryInsertBeat v1 M = some (r, M')) : V X G Z M 0 0 (QN X G (QcI G Z r M') 1 6) 0 [(0, .ref (Z.1 0)), (1, .int v1)] [] := by
  unfold f_L_tryInsertBeat at hf
  refine r_aload_n hC dL_tryInsertBeat_0 0 rfl ?_
  refine r_iload_n hC dL_tryInsertBeat_1 1 rfl ?_
  refine r_hcallVI [] (fun r M1 h => c_X5_insertBeat (cx_st hC) hz hZ v1 _ r M1 h) cs_L_48 hC (z_1 hZ 0 (by decide) rfl) (q0 := (RX5, TX5, 7)) rfl rfl [.int v1] rfl rfl rfl (by decide) (by decide) (Nat.le_of_ble_eq_true rfl) (by decide) (by decide) dL_tryInsertBeat_2 (fun h0 => by rw [h0] at hf; cases hf) (fun e M1 he => ?_) (fun x M1 hx => ?_)
  · rw [he] at hf
    match e, he, hf with
    | 0, he, hf => have hf : (none : Option (Int32 × Mem)) = some (r, M') := hf; cases hf
    | 1, he, hf =>
      have hf : some ((-1003 : Int32), M1) = some (r, M') := hf
      refine r_catch (e := 1) hC ht [⟨0, 5, 6, 28⟩] ⟨0, 5, 11, 15⟩ [] rfl (by decide +kernel) (by decide) kw_cl_15 kw_cast_1 (by decide) (List.forall_mem_cons.mpr ⟨⟨by decide, 2, by decide, by decide, kw_cl_28⟩, fun z hz => absurd hz List.not_mem_nil⟩) (fun q => ?_)
      refine r_astore_n (L' := [(2, .ref q), (0, .ref (Z.1 0)), (1, .int v1)]) hC dL_tryInsertBeat_11 (by decide) rfl ?_
      refine r_sipush (v := -1003) hC dL_tryInsertBeat_12 rfl ?_
      exact r_iret hf hC (by decide) (by decide) dL_tryInsertBeat_15
    | 2, he, hf =>
      have hf : some ((-1001 : Int32), M1) = some (r, M') := hf
      refine r_catch (e := 2) hC ht [] ⟨0, 5, 6, 28⟩ [⟨0, 5, 11, 15⟩] rfl (by decide +kernel) (by decide) kw_cl_28 kw_cast_2 (by decide) (fun z hz => absurd hz List.not_mem_nil) (fun q => ?_)
      refine r_astore_n (L' := [(2, .ref q), (0, .ref (Z.1 0)), (1, .int v1)]) hC dL_tryInsertBeat_6 (by decide) rfl ?_
      refine r_sipush (v := -1001) hC dL_tryInsertBeat_7 rfl ?_
      exact r_iret hf hC (by decide) (by decide) dL_tryInsertBeat_10
    | n + 3, he, hf => have hf : (none : Option (Int32 × Mem)) = some (r, M') := hf; cases hf
  · rw [hx] at hf
    have hf : some (x, M1) = some (r, M') := hf
    exact r_iret hf hC (by decide) (by decide) dL_tryInsertBeat_5
set_option maxRecDepth 20000 in
theorem c_L_tryInsertBeat {l : Launch} (hl : l.stackTraces = false) {G : GG} {Z : ZZ} (hz : ZOk G Z) (hZ : ZM Z) (v1 : Int32) (M : Mem) (r : Int32) (M' : Mem) (hf : f_L_tryInsertBeat v1 M = some (r, M')) : CW (QcI G Z r M') l G Z yL_tryInsertBeat cL_tryInsertBeat 3 (some .int) [(0, 5, 6, 28), (0, 5, 11, 15)] 7 1 6 [.ref (Z.1 0), .int v1] M :=
  CW.of [(0, .ref (Z.1 0)), (1, .int v1)] hl (by decide +kernel) (Nat.le_of_ble_eq_true rfl) rfl (fun _ hC ht => w_L_tryInsertBeat hC ht hz hZ v1 M hf)
set_option maxRecDepth 20000 in
theorem w_L_tryRemoveBeat {X : XX} {G : GG} {Z : ZZ} (hC : Cx X G RL cL_tryRemoveBeat (some .int) 8 1 6 3) (ht : (xc X).exceptionTable.toList = tableOf [(0, 5, 6, 28), (0, 5, 11, 15)]) (hz : ZOk G Z) (hZ : ZM Z) (v1 : Int32) (M : Mem) {r : Int32} {M' : Mem} (hf : f_L_tryRemoveBeat v1 M = some (r, M')) : V X G Z M 0 0 (QN X G (QcI G Z r M') 1 6) 0 [(0, .ref (Z.1 0)), (1, .int v1)] [] := by
  unfold f_L_tryRemoveBeat at hf
  refine r_aload_n hC dL_tryRemoveBeat_0 0 rfl ?_
  refine r_iload_n hC dL_tryRemoveBeat_1 1 rfl ?_
  refine r_hcallVI [] (fun r M1 h => c_X5_removeBeat (cx_st hC) hz hZ v1 _ r M1 h) cs_L_51 hC (z_1 hZ 0 (by decide) rfl) (q0 := (RX5, TX5, 7)) rfl rfl [.int v1] rfl rfl rfl (by decide) (by decide) (Nat.le_of_ble_eq_true rfl) (by decide) (by decide) dL_tryRemoveBeat_2 (fun h0 => by rw [h0] at hf; cases hf) (fun e M1 he => ?_) (fun x M1 hx => ?_)
  · rw [he] at hf
    match e, he, hf with
    | 0, he, hf => have hf : (none : Option (Int32 × Mem)) = some (r, M') := hf; cases hf
    | 1, he, hf =>
      have hf : some ((-1003 : Int32), M1) = some (r, M') := hf
      refine r_catch (e := 1) hC ht [⟨0, 5, 6, 28⟩] ⟨0, 5, 11, 15⟩ [] rfl (by decide +kernel) (by decide) kw_cl_15 kw_cast_1 (by decide) (List.forall_mem_cons.mpr ⟨⟨by decide, 2, by decide, by decide, kw_cl_28⟩, fun z hz => absurd hz List.not_mem_nil⟩) (fun q => ?_)
      refine r_astore_n (L' := [(2, .ref q), (0, .ref (Z.1 0)), (1, .int v1)]) hC dL_tryRemoveBeat_11 (by decide) rfl ?_
      refine r_sipush (v := -1003) hC dL_tryRemoveBeat_12 rfl ?_
      exact r_iret hf hC (by decide) (by decide) dL_tryRemoveBeat_15
    | 2, he, hf =>
      have hf : some ((-1001 : Int32), M1) = some (r, M') := hf
      refine r_catch (e := 2) hC ht [] ⟨0, 5, 6, 28⟩ [⟨0, 5, 11, 15⟩] rfl (by decide +kernel) (by decide) kw_cl_28 kw_cast_2 (by decide) (fun z hz => absurd hz List.not_mem_nil) (fun q => ?_)
      refine r_astore_n (L' := [(2, .ref q), (0, .ref (Z.1 0)), (1, .int v1)]) hC dL_tryRemoveBeat_6 (by decide) rfl ?_
      refine r_sipush (v := -1001) hC dL_tryRemoveBeat_7 rfl ?_
      exact r_iret hf hC (by decide) (by decide) dL_tryRemoveBeat_10
    | n + 3, he, hf => have hf : (none : Option (Int32 × Mem)) = some (r, M') := hf; cases hf
  · rw [hx] at hf
    have hf : some (x, M1) = some (r, M') := hf
    exact r_iret hf hC (by decide) (by decide) dL_tryRemoveBeat_5
set_option maxRecDepth 20000 in
theorem c_L_tryRemoveBeat {l : Launch} (hl : l.stackTraces = false) {G : GG} {Z : ZZ} (hz : ZOk G Z) (hZ : ZM Z) (v1 : Int32) (M : Mem) (r : Int32) (M' : Mem) (hf : f_L_tryRemoveBeat v1 M = some (r, M')) : CW (QcI G Z r M') l G Z yL_tryRemoveBeat cL_tryRemoveBeat 3 (some .int) [(0, 5, 6, 28), (0, 5, 11, 15)] 8 1 6 [.ref (Z.1 0), .int v1] M :=
  CW.of [(0, .ref (Z.1 0)), (1, .int v1)] hl (by decide +kernel) (Nat.le_of_ble_eq_true rfl) rfl (fun _ hC ht => w_L_tryRemoveBeat hC ht hz hZ v1 M hf)
set_option maxRecDepth 20000 in
theorem w_L_tryNote {X : XX} {G : GG} {Z : ZZ} (hC : Cx X G RL cL_tryNote (some .int) 9 1 6 5) (ht : (xc X).exceptionTable.toList = tableOf [(0, 7, 8, 28), (0, 7, 14, 13)]) (hz : ZOk G Z) (hZ : ZM Z) (v1 : Int32) (v2 : Int32) (v3 : Int32) (M : Mem) {r : Int32} {M' : Mem} (hf : f_L_tryNote v1 v2 v3 M = some (r, M')) : V X G Z M 0 0 (QN X G (QcI G Z r M') 1 6) 0 [(0, .ref (Z.1 0)), (1, .int v1), (2, .int v2), (3, .int v3)] [] := by
  unfold f_L_tryNote at hf
  refine r_aload_n hC dL_tryNote_0 0 rfl ?_
  refine r_iload_n hC dL_tryNote_1 1 rfl ?_
  refine r_iload_n hC dL_tryNote_2 2 rfl ?_
  refine r_iload_n hC dL_tryNote_3 3 rfl ?_
  refine r_hcallVI [] (fun r M1 h => c_X5_note (cx_st hC) hz hZ v1 v2 v3 _ r M1 h) cs_L_57 hC (z_1 hZ 0 (by decide) rfl) (q0 := (RX5, TX5, 7)) rfl rfl [.int v1, .int v2, .int v3] rfl rfl rfl (by decide) (by decide) (Nat.le_of_ble_eq_true rfl) (by decide) (by decide) dL_tryNote_4 (fun h0 => by rw [h0] at hf; cases hf) (fun e M1 he => ?_) (fun x M1 hx => ?_)
  · rw [he] at hf
    match e, he, hf with
    | 0, he, hf =>
      have hf : some ((-1002 : Int32), M1) = some (r, M') := hf
      refine r_catch (e := 0) hC ht [⟨0, 7, 8, 28⟩] ⟨0, 7, 14, 13⟩ [] rfl (by decide +kernel) (by decide) kw_cl_13 kw_cast_0 (by decide) (List.forall_mem_cons.mpr ⟨⟨by decide, 2, by decide, by decide, kw_cl_28⟩, fun z hz => absurd hz List.not_mem_nil⟩) (fun q => ?_)
      refine r_astore (L' := [(4, .ref q), (0, .ref (Z.1 0)), (1, .int v1), (2, .int v2), (3, .int v3)]) hC dL_tryNote_14 (by decide) rfl ?_
      refine r_sipush (v := -1002) hC dL_tryNote_16 rfl ?_
      exact r_iret hf hC (by decide) (by decide) dL_tryNote_19
    | 1, he, hf => have hf : (none : Option (Int32 × Mem)) = some (r, M') := hf; cases hf
    | 2, he, hf =>
      have hf : some ((-1001 : Int32), M1) = some (r, M') := hf
      refine r_catch (e := 2) hC ht [] ⟨0, 7, 8, 28⟩ [⟨0, 7, 14, 13⟩] rfl (by decide +kernel) (by decide) kw_cl_28 kw_cast_2 (by decide) (fun z hz => absurd hz List.not_mem_nil) (fun q => ?_)
      refine r_astore (L' := [(4, .ref q), (0, .ref (Z.1 0)), (1, .int v1), (2, .int v2), (3, .int v3)]) hC dL_tryNote_8 (by decide) rfl ?_
      refine r_sipush (v := -1001) hC dL_tryNote_10 rfl ?_
      exact r_iret hf hC (by decide) (by decide) dL_tryNote_13
    | n + 3, he, hf => have hf : (none : Option (Int32 × Mem)) = some (r, M') := hf; cases hf
  · rw [hx] at hf
    have hf : some (x, M1) = some (r, M') := hf
    exact r_iret hf hC (by decide) (by decide) dL_tryNote_7
set_option maxRecDepth 20000 in
theorem c_L_tryNote {l : Launch} (hl : l.stackTraces = false) {G : GG} {Z : ZZ} (hz : ZOk G Z) (hZ : ZM Z) (v1 : Int32) (v2 : Int32) (v3 : Int32) (M : Mem) (r : Int32) (M' : Mem) (hf : f_L_tryNote v1 v2 v3 M = some (r, M')) : CW (QcI G Z r M') l G Z yL_tryNote cL_tryNote 5 (some .int) [(0, 7, 8, 28), (0, 7, 14, 13)] 9 1 6 [.ref (Z.1 0), .int v1, .int v2, .int v3] M :=
  CW.of [(0, .ref (Z.1 0)), (1, .int v1), (2, .int v2), (3, .int v3)] hl (by decide +kernel) (Nat.le_of_ble_eq_true rfl) rfl (fun _ hC ht => w_L_tryNote hC ht hz hZ v1 v2 v3 M hf)
set_option maxRecDepth 20000 in
theorem w_L_tryHand {X : XX} {G : GG} {Z : ZZ} (hC : Cx X G RL cL_tryHand (some .int) 8 1 6 5) (ht : (xc X).exceptionTable.toList = tableOf [(0, 7, 8, 28), (0, 7, 14, 13)]) (hz : ZOk G Z) (hZ : ZM Z) (v1 : Int32) (v2 : Int32) (v3 : Int32) (M : Mem) {r : Int32} {M' : Mem} (hf : f_L_tryHand v1 v2 v3 M = some (r, M')) : V X G Z M 0 0 (QN X G (QcI G Z r M') 1 6) 0 [(0, .ref (Z.1 0)), (1, .int v1), (2, .int v2), (3, .int v3)] [] := by
  unfold f_L_tryHand at hf
  refine r_aload_n hC dL_tryHand_0 0 rfl ?_
  refine r_iload_n hC dL_tryHand_1 1 rfl ?_
  refine r_iload_n hC dL_tryHand_2 2 rfl ?_
  refine r_iload_n hC dL_tryHand_3 3 rfl ?_
  refine r_hcallVI [] (fun r M1 h => c_X5_hand (cx_st hC) hz hZ v1 v2 v3 _ r M1 h) cs_L_60 hC (z_1 hZ 0 (by decide) rfl) (q0 := (RX5, TX5, 7)) rfl rfl [.int v1, .int v2, .int v3] rfl rfl rfl (by decide) (by decide) (Nat.le_of_ble_eq_true rfl) (by decide) (by decide) dL_tryHand_4 (fun h0 => by rw [h0] at hf; cases hf) (fun e M1 he => ?_) (fun x M1 hx => ?_)
  · rw [he] at hf
    match e, he, hf with
    | 0, he, hf =>
      have hf : some ((-1002 : Int32), M1) = some (r, M') := hf
      refine r_catch (e := 0) hC ht [⟨0, 7, 8, 28⟩] ⟨0, 7, 14, 13⟩ [] rfl (by decide +kernel) (by decide) kw_cl_13 kw_cast_0 (by decide) (List.forall_mem_cons.mpr ⟨⟨by decide, 2, by decide, by decide, kw_cl_28⟩, fun z hz => absurd hz List.not_mem_nil⟩) (fun q => ?_)
      refine r_astore (L' := [(4, .ref q), (0, .ref (Z.1 0)), (1, .int v1), (2, .int v2), (3, .int v3)]) hC dL_tryHand_14 (by decide) rfl ?_
      refine r_sipush (v := -1002) hC dL_tryHand_16 rfl ?_
      exact r_iret hf hC (by decide) (by decide) dL_tryHand_19
    | 1, he, hf => have hf : (none : Option (Int32 × Mem)) = some (r, M') := hf; cases hf
    | 2, he, hf =>
      have hf : some ((-1001 : Int32), M1) = some (r, M') := hf
      refine r_catch (e := 2) hC ht [] ⟨0, 7, 8, 28⟩ [⟨0, 7, 14, 13⟩] rfl (by decide +kernel) (by decide) kw_cl_28 kw_cast_2 (by decide) (fun z hz => absurd hz List.not_mem_nil) (fun q => ?_)
      refine r_astore (L' := [(4, .ref q), (0, .ref (Z.1 0)), (1, .int v1), (2, .int v2), (3, .int v3)]) hC dL_tryHand_8 (by decide) rfl ?_
      refine r_sipush (v := -1001) hC dL_tryHand_10 rfl ?_
      exact r_iret hf hC (by decide) (by decide) dL_tryHand_13
    | n + 3, he, hf => have hf : (none : Option (Int32 × Mem)) = some (r, M') := hf; cases hf
  · rw [hx] at hf
    have hf : some (x, M1) = some (r, M') := hf
    exact r_iret hf hC (by decide) (by decide) dL_tryHand_7
set_option maxRecDepth 20000 in
theorem c_L_tryHand {l : Launch} (hl : l.stackTraces = false) {G : GG} {Z : ZZ} (hz : ZOk G Z) (hZ : ZM Z) (v1 : Int32) (v2 : Int32) (v3 : Int32) (M : Mem) (r : Int32) (M' : Mem) (hf : f_L_tryHand v1 v2 v3 M = some (r, M')) : CW (QcI G Z r M') l G Z yL_tryHand cL_tryHand 5 (some .int) [(0, 7, 8, 28), (0, 7, 14, 13)] 8 1 6 [.ref (Z.1 0), .int v1, .int v2, .int v3] M :=
  CW.of [(0, .ref (Z.1 0)), (1, .int v1), (2, .int v2), (3, .int v3)] hl (by decide +kernel) (Nat.le_of_ble_eq_true rfl) rfl (fun _ hC ht => w_L_tryHand hC ht hz hZ v1 v2 v3 M hf)
set_option maxRecDepth 20000 in
theorem w_L_tryBeat {X : XX} {G : GG} {Z : ZZ} (hC : Cx X G RL cL_tryBeat (some .int) 8 1 6 4) (ht : (xc X).exceptionTable.toList = tableOf [(0, 6, 7, 28), (0, 6, 12, 13)]) (hz : ZOk G Z) (hZ : ZM Z) (v1 : Int32) (v2 : Int32) (M : Mem) {r : Int32} {M' : Mem} (hf : f_L_tryBeat v1 v2 M = some (r, M')) : V X G Z M 0 0 (QN X G (QcI G Z r M') 1 6) 0 [(0, .ref (Z.1 0)), (1, .int v1), (2, .int v2)] [] := by
  unfold f_L_tryBeat at hf
  refine r_aload_n hC dL_tryBeat_0 0 rfl ?_
  refine r_iload_n hC dL_tryBeat_1 1 rfl ?_
  refine r_iload_n hC dL_tryBeat_2 2 rfl ?_
  refine r_hcallVI [] (fun r M1 h => c_X5_beat (cx_st hC) hz hZ v1 v2 _ r M1 h) cs_L_63 hC (z_1 hZ 0 (by decide) rfl) (q0 := (RX5, TX5, 7)) rfl rfl [.int v1, .int v2] rfl rfl rfl (by decide) (by decide) (Nat.le_of_ble_eq_true rfl) (by decide) (by decide) dL_tryBeat_3 (fun h0 => by rw [h0] at hf; cases hf) (fun e M1 he => ?_) (fun x M1 hx => ?_)
  · rw [he] at hf
    match e, he, hf with
    | 0, he, hf =>
      have hf : some ((-1002 : Int32), M1) = some (r, M') := hf
      refine r_catch (e := 0) hC ht [⟨0, 6, 7, 28⟩] ⟨0, 6, 12, 13⟩ [] rfl (by decide +kernel) (by decide) kw_cl_13 kw_cast_0 (by decide) (List.forall_mem_cons.mpr ⟨⟨by decide, 2, by decide, by decide, kw_cl_28⟩, fun z hz => absurd hz List.not_mem_nil⟩) (fun q => ?_)
      refine r_astore_n (L' := [(3, .ref q), (0, .ref (Z.1 0)), (1, .int v1), (2, .int v2)]) hC dL_tryBeat_12 (by decide) rfl ?_
      refine r_sipush (v := -1002) hC dL_tryBeat_13 rfl ?_
      exact r_iret hf hC (by decide) (by decide) dL_tryBeat_16
    | 1, he, hf => have hf : (none : Option (Int32 × Mem)) = some (r, M') := hf; cases hf
    | 2, he, hf =>
      have hf : some ((-1001 : Int32), M1) = some (r, M') := hf
      refine r_catch (e := 2) hC ht [] ⟨0, 6, 7, 28⟩ [⟨0, 6, 12, 13⟩] rfl (by decide +kernel) (by decide) kw_cl_28 kw_cast_2 (by decide) (fun z hz => absurd hz List.not_mem_nil) (fun q => ?_)
      refine r_astore_n (L' := [(3, .ref q), (0, .ref (Z.1 0)), (1, .int v1), (2, .int v2)]) hC dL_tryBeat_7 (by decide) rfl ?_
      refine r_sipush (v := -1001) hC dL_tryBeat_8 rfl ?_
      exact r_iret hf hC (by decide) (by decide) dL_tryBeat_11
    | n + 3, he, hf => have hf : (none : Option (Int32 × Mem)) = some (r, M') := hf; cases hf
  · rw [hx] at hf
    have hf : some (x, M1) = some (r, M') := hf
    exact r_iret hf hC (by decide) (by decide) dL_tryBeat_6
set_option maxRecDepth 20000 in
theorem c_L_tryBeat {l : Launch} (hl : l.stackTraces = false) {G : GG} {Z : ZZ} (hz : ZOk G Z) (hZ : ZM Z) (v1 : Int32) (v2 : Int32) (M : Mem) (r : Int32) (M' : Mem) (hf : f_L_tryBeat v1 v2 M = some (r, M')) : CW (QcI G Z r M') l G Z yL_tryBeat cL_tryBeat 4 (some .int) [(0, 6, 7, 28), (0, 6, 12, 13)] 8 1 6 [.ref (Z.1 0), .int v1, .int v2] M :=
  CW.of [(0, .ref (Z.1 0)), (1, .int v1), (2, .int v2)] hl (by decide +kernel) (Nat.le_of_ble_eq_true rfl) rfl (fun _ hC ht => w_L_tryBeat hC ht hz hZ v1 v2 M hf)
set_option maxRecDepth 20000 in
theorem w_L_tryWhatIf {X : XX} {G : GG} {Z : ZZ} (hC : Cx X G RL cL_tryWhatIf (some .int) 8 1 6 5) (ht : (xc X).exceptionTable.toList = tableOf [(0, 7, 8, 13)]) (hz : ZOk G Z) (hZ : ZM Z) (v1 : Int32) (v2 : Int32) (v3 : Int32) (M : Mem) {r : Int32} {M' : Mem} (hf : f_L_tryWhatIf v1 v2 v3 M = some (r, M')) : V X G Z M 0 0 (QN X G (QcI G Z r M') 1 6) 0 [(0, .ref (Z.1 0)), (1, .int v1), (2, .int v2), (3, .int v3)] [] := by
  unfold f_L_tryWhatIf at hf
  refine r_aload_n hC dL_tryWhatIf_0 0 rfl ?_
  refine r_iload_n hC dL_tryWhatIf_1 1 rfl ?_
  refine r_iload_n hC dL_tryWhatIf_2 2 rfl ?_
  refine r_iload_n hC dL_tryWhatIf_3 3 rfl ?_
  refine r_hcallVI [] (fun r M1 h => c_X5_whatIf (cx_st hC) hz hZ v1 v2 v3 _ r M1 h) cs_L_69 hC (z_1 hZ 0 (by decide) rfl) (q0 := (RX5, TX5, 7)) rfl rfl [.int v1, .int v2, .int v3] rfl rfl rfl (by decide) (by decide) (Nat.le_of_ble_eq_true rfl) (by decide) (by decide) dL_tryWhatIf_4 (fun h0 => by rw [h0] at hf; cases hf) (fun e M1 he => ?_) (fun x M1 hx => ?_)
  · rw [he] at hf
    match e, he, hf with
    | 0, he, hf =>
      have hf : some ((-1002 : Int32), M1) = some (r, M') := hf
      refine r_catch (e := 0) hC ht [] ⟨0, 7, 8, 13⟩ [] rfl (by decide +kernel) (by decide) kw_cl_13 kw_cast_0 (by decide) (fun z hz => absurd hz List.not_mem_nil) (fun q => ?_)
      refine r_astore (L' := [(4, .ref q), (0, .ref (Z.1 0)), (1, .int v1), (2, .int v2), (3, .int v3)]) hC dL_tryWhatIf_8 (by decide) rfl ?_
      refine r_sipush (v := -1002) hC dL_tryWhatIf_10 rfl ?_
      exact r_iret hf hC (by decide) (by decide) dL_tryWhatIf_13
    | 1, he, hf => have hf : (none : Option (Int32 × Mem)) = some (r, M') := hf; cases hf
    | 2, he, hf => have hf : (none : Option (Int32 × Mem)) = some (r, M') := hf; cases hf
    | n + 3, he, hf => have hf : (none : Option (Int32 × Mem)) = some (r, M') := hf; cases hf
  · rw [hx] at hf
    have hf : some (x, M1) = some (r, M') := hf
    exact r_iret hf hC (by decide) (by decide) dL_tryWhatIf_7
set_option maxRecDepth 20000 in
theorem c_L_tryWhatIf {l : Launch} (hl : l.stackTraces = false) {G : GG} {Z : ZZ} (hz : ZOk G Z) (hZ : ZM Z) (v1 : Int32) (v2 : Int32) (v3 : Int32) (M : Mem) (r : Int32) (M' : Mem) (hf : f_L_tryWhatIf v1 v2 v3 M = some (r, M')) : CW (QcI G Z r M') l G Z yL_tryWhatIf cL_tryWhatIf 5 (some .int) [(0, 7, 8, 13)] 8 1 6 [.ref (Z.1 0), .int v1, .int v2, .int v3] M :=
  CW.of [(0, .ref (Z.1 0)), (1, .int v1), (2, .int v2), (3, .int v3)] hl (by decide +kernel) (Nat.le_of_ble_eq_true rfl) rfl (fun _ hC ht => w_L_tryWhatIf hC ht hz hZ v1 v2 v3 M hf)
set_option maxRecDepth 20000 in
theorem w_L_tryBestTransposition {X : XX} {G : GG} {Z : ZZ} (hC : Cx X G RL cL_tryBestTransposition (some .int) 8 1 6 3) (ht : (xc X).exceptionTable.toList = tableOf [(0, 5, 6, 28)]) (hz : ZOk G Z) (hZ : ZM Z) (v1 : Int32) (M : Mem) {r : Int32} {M' : Mem} (hf : f_L_tryBestTransposition v1 M = some (r, M')) : V X G Z M 0 0 (QN X G (QcI G Z r M') 1 6) 0 [(0, .ref (Z.1 0)), (1, .int v1)] [] := by
  unfold f_L_tryBestTransposition at hf
  refine r_aload_n hC dL_tryBestTransposition_0 0 rfl ?_
  refine r_iload_n hC dL_tryBestTransposition_1 1 rfl ?_
  refine r_hcallVI [] (fun r M1 h => c_X5_bestTransposition (cx_st hC) hz hZ v1 _ r M1 h) cs_L_72 hC (z_1 hZ 0 (by decide) rfl) (q0 := (RX5, TX5, 7)) rfl rfl [.int v1] rfl rfl rfl (by decide) (by decide) (Nat.le_of_ble_eq_true rfl) (by decide) (by decide) dL_tryBestTransposition_2 (fun h0 => by rw [h0] at hf; cases hf) (fun e M1 he => ?_) (fun x M1 hx => ?_)
  · rw [he] at hf
    match e, he, hf with
    | 0, he, hf => have hf : (none : Option (Int32 × Mem)) = some (r, M') := hf; cases hf
    | 1, he, hf => have hf : (none : Option (Int32 × Mem)) = some (r, M') := hf; cases hf
    | 2, he, hf =>
      have hf : some ((-1001 : Int32), M1) = some (r, M') := hf
      refine r_catch (e := 2) hC ht [] ⟨0, 5, 6, 28⟩ [] rfl (by decide +kernel) (by decide) kw_cl_28 kw_cast_2 (by decide) (fun z hz => absurd hz List.not_mem_nil) (fun q => ?_)
      refine r_astore_n (L' := [(2, .ref q), (0, .ref (Z.1 0)), (1, .int v1)]) hC dL_tryBestTransposition_6 (by decide) rfl ?_
      refine r_sipush (v := -1001) hC dL_tryBestTransposition_7 rfl ?_
      exact r_iret hf hC (by decide) (by decide) dL_tryBestTransposition_10
    | n + 3, he, hf => have hf : (none : Option (Int32 × Mem)) = some (r, M') := hf; cases hf
  · rw [hx] at hf
    have hf : some (x, M1) = some (r, M') := hf
    exact r_iret hf hC (by decide) (by decide) dL_tryBestTransposition_5
set_option maxRecDepth 20000 in
theorem c_L_tryBestTransposition {l : Launch} (hl : l.stackTraces = false) {G : GG} {Z : ZZ} (hz : ZOk G Z) (hZ : ZM Z) (v1 : Int32) (M : Mem) (r : Int32) (M' : Mem) (hf : f_L_tryBestTransposition v1 M = some (r, M')) : CW (QcI G Z r M') l G Z yL_tryBestTransposition cL_tryBestTransposition 3 (some .int) [(0, 5, 6, 28)] 8 1 6 [.ref (Z.1 0), .int v1] M :=
  CW.of [(0, .ref (Z.1 0)), (1, .int v1)] hl (by decide +kernel) (Nat.le_of_ble_eq_true rfl) rfl (fun _ hC ht => w_L_tryBestTransposition hC ht hz hZ v1 M hf)
set_option maxRecDepth 20000 in
theorem w_L_tryScript {X : XX} {G : GG} {Z : ZZ} (hC : Cx X G RL cL_tryScript (some .int) 8 1 6 5) (ht : (xc X).exceptionTable.toList = tableOf [(0, 6, 7, 13)]) (hz : ZOk G Z) (hZ : ZM Z) (v1 : Int32) (w2 : Int64) (M : Mem) {r : Int32} {M' : Mem} (hf : f_L_tryScript v1 w2 M = some (r, M')) : V X G Z M 0 0 (QN X G (QcI G Z r M') 1 6) 0 [(0, .ref (Z.1 0)), (1, .int v1), (2, .long w2)] [] := by
  unfold f_L_tryScript at hf
  refine r_aload_n hC dL_tryScript_0 0 rfl ?_
  refine r_iload_n hC dL_tryScript_1 1 rfl ?_
  refine r_lload_n hC dL_tryScript_2 2 rfl ?_
  refine r_hcallVI [] (fun r M1 h => c_X5_runScript (cx_st hC) hz hZ v1 w2 _ r M1 h) cs_L_75 hC (z_1 hZ 0 (by decide) rfl) (q0 := (RX5, TX5, 7)) rfl rfl [.int v1, .long w2] rfl rfl rfl (by decide) (by decide) (Nat.le_of_ble_eq_true rfl) (by decide) (by decide) dL_tryScript_3 (fun h0 => by rw [h0] at hf; cases hf) (fun e M1 he => ?_) (fun x M1 hx => ?_)
  · rw [he] at hf
    match e, he, hf with
    | 0, he, hf =>
      have hf : some ((-1002 : Int32), M1) = some (r, M') := hf
      refine r_catch (e := 0) hC ht [] ⟨0, 6, 7, 13⟩ [] rfl (by decide +kernel) (by decide) kw_cl_13 kw_cast_0 (by decide) (fun z hz => absurd hz List.not_mem_nil) (fun q => ?_)
      refine r_astore (L' := [(4, .ref q), (0, .ref (Z.1 0)), (1, .int v1), (2, .long w2)]) hC dL_tryScript_7 (by decide) rfl ?_
      refine r_sipush (v := -1002) hC dL_tryScript_9 rfl ?_
      exact r_iret hf hC (by decide) (by decide) dL_tryScript_12
    | 1, he, hf => have hf : (none : Option (Int32 × Mem)) = some (r, M') := hf; cases hf
    | 2, he, hf => have hf : (none : Option (Int32 × Mem)) = some (r, M') := hf; cases hf
    | n + 3, he, hf => have hf : (none : Option (Int32 × Mem)) = some (r, M') := hf; cases hf
  · rw [hx] at hf
    have hf : some (x, M1) = some (r, M') := hf
    exact r_iret hf hC (by decide) (by decide) dL_tryScript_6
set_option maxRecDepth 20000 in
theorem c_L_tryScript {l : Launch} (hl : l.stackTraces = false) {G : GG} {Z : ZZ} (hz : ZOk G Z) (hZ : ZM Z) (v1 : Int32) (w2 : Int64) (M : Mem) (r : Int32) (M' : Mem) (hf : f_L_tryScript v1 w2 M = some (r, M')) : CW (QcI G Z r M') l G Z yL_tryScript cL_tryScript 5 (some .int) [(0, 6, 7, 13)] 8 1 6 [.ref (Z.1 0), .int v1, .long w2] M :=
  CW.of [(0, .ref (Z.1 0)), (1, .int v1), (2, .long w2)] hl (by decide +kernel) (Nat.le_of_ble_eq_true rfl) rfl (fun _ hC ht => w_L_tryScript hC ht hz hZ v1 w2 M hf)
set_option maxRecDepth 20000 in
theorem w_L_trySimulate {X : XX} {G : GG} {Z : ZZ} (hC : Cx X G RL cL_trySimulate (some .int) 7 1 6 5) (ht : (xc X).exceptionTable.toList = tableOf [(0, 6, 7, 13)]) (hz : ZOk G Z) (hZ : ZM Z) (w1 : Int64) (v3 : Int32) (M : Mem) {r : Int32} {M' : Mem} (hf : f_L_trySimulate w1 v3 M = some (r, M')) : V X G Z M 0 0 (QN X G (QcI G Z r M') 1 6) 0 [(0, .ref (Z.1 0)), (1, .long w1), (3, .int v3)] [] := by
  unfold f_L_trySimulate at hf
  refine r_aload_n hC dL_trySimulate_0 0 rfl ?_
  refine r_lload_n hC dL_trySimulate_1 1 rfl ?_
  refine r_iload_n hC dL_trySimulate_2 2 rfl ?_
  refine r_hcallVI [] (fun r M1 h => c_X5_simulate (cx_st hC) hz hZ w1 v3 _ r M1 h) cs_L_79 hC (z_1 hZ 0 (by decide) rfl) (q0 := (RX5, TX5, 7)) rfl rfl [.long w1, .int v3] rfl rfl rfl (by decide) (by decide) (Nat.le_of_ble_eq_true rfl) (by decide) (by decide) dL_trySimulate_3 (fun h0 => by rw [h0] at hf; cases hf) (fun e M1 he => ?_) (fun x M1 hx => ?_)
  · rw [he] at hf
    match e, he, hf with
    | 0, he, hf =>
      have hf : some ((-1002 : Int32), M1) = some (r, M') := hf
      refine r_catch (e := 0) hC ht [] ⟨0, 6, 7, 13⟩ [] rfl (by decide +kernel) (by decide) kw_cl_13 kw_cast_0 (by decide) (fun z hz => absurd hz List.not_mem_nil) (fun q => ?_)
      refine r_astore (L' := [(4, .ref q), (0, .ref (Z.1 0)), (1, .long w1), (3, .int v3)]) hC dL_trySimulate_7 (by decide) rfl ?_
      refine r_sipush (v := -1002) hC dL_trySimulate_9 rfl ?_
      exact r_iret hf hC (by decide) (by decide) dL_trySimulate_12
    | 1, he, hf => have hf : (none : Option (Int32 × Mem)) = some (r, M') := hf; cases hf
    | 2, he, hf => have hf : (none : Option (Int32 × Mem)) = some (r, M') := hf; cases hf
    | n + 3, he, hf => have hf : (none : Option (Int32 × Mem)) = some (r, M') := hf; cases hf
  · rw [hx] at hf
    have hf : some (x, M1) = some (r, M') := hf
    exact r_iret hf hC (by decide) (by decide) dL_trySimulate_6
set_option maxRecDepth 20000 in
theorem c_L_trySimulate {l : Launch} (hl : l.stackTraces = false) {G : GG} {Z : ZZ} (hz : ZOk G Z) (hZ : ZM Z) (w1 : Int64) (v3 : Int32) (M : Mem) (r : Int32) (M' : Mem) (hf : f_L_trySimulate w1 v3 M = some (r, M')) : CW (QcI G Z r M') l G Z yL_trySimulate cL_trySimulate 5 (some .int) [(0, 6, 7, 13)] 7 1 6 [.ref (Z.1 0), .long w1, .int v3] M :=
  CW.of [(0, .ref (Z.1 0)), (1, .long w1), (3, .int v3)] hl (by decide +kernel) (Nat.le_of_ble_eq_true rfl) rfl (fun _ hC ht => w_L_trySimulate hC ht hz hZ w1 v3 M hf)
