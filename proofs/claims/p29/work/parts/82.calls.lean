/-! CONTRACTS -/
def Wp (G : GG) (Z : ZZ) (M : Mem) (t : State) : Prop := va_P G.1 vwCl (wv G Z M) t.heap
def QcI (G : GG) (Z : ZZ) (r : Int32) (M' : Mem) : Array Value → State → Outcome → State → Prop := va_Qi (fun x (_ : Unit) => x = r) (fun _ t => Wp G Z M' t) G.2.2.1
def QcL (G : GG) (Z : ZZ) (r : Int64) (M' : Mem) : Array Value → State → Outcome → State → Prop := va_Ql (fun x (_ : Unit) => x = r) (fun _ t => Wp G Z M' t) G.2.2.1
def QcV (G : GG) (Z : ZZ) (_ : Unit) (M' : Mem) : Array Value → State → Outcome → State → Prop := va_Qv (fun _ : Unit => True) (fun _ t => Wp G Z M' t) G.2.2.1
def QcR (ido : Nat → Nat) (G : GG) (Z : ZZ) (r : Nat) (M' : Mem) : Array Value → State → Outcome → State → Prop := va_Qr (fun _ : Unit => True) (fun _ a t => a = Z.1 (ido r) ∧ Wp G Z M' t) G.2.2.1
def QcTI (G : GG) (Z : ZZ) (r : Except Nat Int32) (M' : Mem) : Array Value → State → Outcome → State → Prop := va_Qi (fun x (_ : Unit) => r = .ok x) (fun _ t => Wp G Z M' t) G.2.2.1
def QcTV (G : GG) (Z : ZZ) (r : Except Nat Unit) (M' : Mem) : Array Value → State → Outcome → State → Prop := va_Qv (fun _ : Unit => r = .ok ()) (fun _ t => Wp G Z M' t) G.2.2.1
def XcT {α : Type} (G : GG) (Z : ZZ) (r : Except Nat α) (M' : Mem) : String → State → State → Prop := vx_X (fun k : Nat => r = .error k) (fun E k t => E = exn k ∧ Wp G Z M' t) G.2.2.1
def CN (Qc : Array Value → State → Outcome → State → Prop) (l : Launch) (G : GG) (Z : ZZ) (y : MethodName) (cc : ByteArray) (nL : Nat) (ret : Option FieldType) (d : Nat) (As : List Value) (M : Mem) : Prop :=
  Met l y [.code y cc nL ret] (rmd d 0 0) (va_Pc As (Wd G Z M)) Qc 0 0 G.2.2.1
def CTw (Qc : Array Value → State → Outcome → State → Prop) (Xc : String → State → State → Prop) (l : Launch) (G : GG) (Z : ZZ) (y : MethodName) (cc : ByteArray) (nL : Nat) (ret : Option FieldType) (d mc ms : Nat) (As : List Value) (M : Mem) : Prop :=
  vx_Met l y [.code y cc nL ret] (rmd d mc ms) (va_Pc As (Wd G Z M)) Qc Xc mc ms G.2.2.1
/-- what a body that returns owes; what one that may throw owes -/
def QN (X : XX) (G : GG) (Qc : Array Value → State → Outcome → State → Prop) (mc ms : Nat) : State → Prop := MQ (xb X) Qc (xa X) (xs X) mc ms G.2.2.1
def QT (X : XX) (G : GG) (Qc : Array Value → State → Outcome → State → Prop) (Xc : String → State → State → Prop) (mc ms : Nat) : State → Prop := vx_MQ (xb X) Qc Xc (xa X) (xs X) mc ms G.2.2.1
theorem CN.of {Qc : Array Value → State → Outcome → State → Prop} {l : Launch} {G : GG} {Z : ZZ} {y : MethodName} {cc : ByteArray} {nL : Nat} {ret : Option FieldType} {d : Nat} {As : List Value} {M : Mem} (L0 : List (Nat × Value)) (hl : l.stackTraces = false) (hy : plainName y.cls = true) (hlen : (lg_sl As).length ≤ nL) (hL : lv_args 0 As = L0)
    (body : ∀ X : XX, Cx X G y.cls cc ret d 0 0 nL → V X G Z M 0 0 (QN X G Qc 0 0) 0 L0 []) : CN Qc l G Z y cc nL ret d As M := by
  refine Met.ofW (cc := cc) (maxL := nL) (ret := ret) hy rfl ?_
  intro p e s m args below meth c s₁ B hml hv
  obtain ⟨rfl, hP, hK, hA, hsg, htw⟩ := hv
  have hown : s.vm.findClass y.cls = some m.cls := findClass_of_methodNamed B.named
  have hl0 := lv_entry As (n := nL) hlen
  rw [hL] at hl0
  rw [lg_entry_eq]
  exact body (p, l, e, rmd d 0 0, s, m, As.toArray, below, meth, c, nL) ⟨⟨B.exec, B.bytes, B.returns, hml, rfl⟩, hown, htw, B.notSynchronized, hK, hA, hsg, hl, rfl, Nat.le_refl _, rfl, rfl⟩ s.heap [] _ hP va_S.rf hl0
theorem CTw.of {Qc : Array Value → State → Outcome → State → Prop} {Xc : String → State → State → Prop} {l : Launch} {G : GG} {Z : ZZ} {y : MethodName} {cc : ByteArray} {nL : Nat} {ret : Option FieldType} {d mc ms : Nat} {As : List Value} {M : Mem} (L0 : List (Nat × Value)) (hl : l.stackTraces = false) (hy : plainName y.cls = true) (hlen : (lg_sl As).length ≤ nL) (hL : lv_args 0 As = L0)
    (body : ∀ X : XX, Cx X G y.cls cc ret d mc ms nL → (∀ x ∈ (xc X).exceptionTable.toList, False) → V X G Z M 0 0 (QT X G Qc Xc mc ms) 0 L0 []) : CTw Qc Xc l G Z y cc nL ret d mc ms As M := by
  refine vx_ofW (cc := cc) (maxL := nL) (ret := ret) hy rfl ?_
  intro p e s m args below meth c s₁ B hml hno hv
  obtain ⟨rfl, hP, hK, hA, hsg, htw⟩ := hv
  have hown : s.vm.findClass y.cls = some m.cls := findClass_of_methodNamed B.named
  have hl0 := lv_entry As (n := nL) hlen
  rw [hL] at hl0
  rw [lg_entry_eq]
  exact body (p, l, e, rmd d mc ms, s, m, As.toArray, below, meth, c, nL) ⟨⟨B.exec, B.bytes, B.returns, hml, rfl⟩, hown, htw, B.notSynchronized, hK, hA, hsg, hl, rfl, Nat.le_refl _, rfl, rfl⟩ hno s.heap [] _ hP va_S.rf hl0
def CsV (own : String) (idx : Nat) (y : MethodName) (cy : ByteArray) (ny : Nat) (rety : Option FieldType) (na : Nat) : Prop :=
  GoodIn TW (wsV own idx y.cls y [.code y cy ny rety]) ∧ (y.cls ≠ "java/lang/invoke/MethodHandle" ∧ y.cls ≠ "java/lang/invoke/VarHandle") ∧ (parseMethodDescriptor y.desc).map (fun d => d.parameters.length) = some na
def CsS (own : String) (idx : Nat) (y : MethodName) (cy : ByteArray) (ny : Nat) (rety : Option FieldType) (na : Nat) : Prop :=
  GoodIn TW (va_wsS own idx y [.code y cy ny rety]) ∧ (y.cls ≠ "java/lang/invoke/MethodHandle" ∧ y.cls ≠ "java/lang/invoke/VarHandle") ∧ (parseMethodDescriptor y.desc).map (fun d => d.parameters.length) = some na
theorem csV_of {own : String} {idx : Nat} {y : MethodName} {cy : ByteArray} {ny : Nat} {rety : Option FieldType} {na : Nat} (w1 : Cond.methodLink own idx y ∈ lw_tbl) (w2 : Cond.instanceMethod y ∈ lw_tbl) (w3 : Cond.selects y.cls y y ∈ lw_tbl) (w4 : Cond.initialized y.cls ∈ lw_tbl) (w5 : Cond.code y cy ny rety ∈ lw_tbl)
    (hd : (y.cls ≠ "java/lang/invoke/MethodHandle" ∧ y.cls ≠ "java/lang/invoke/VarHandle") ∧ (parseMethodDescriptor y.desc).map (fun d => d.parameters.length) = some na) : CsV own idx y cy ny rety na := by
  refine ⟨fun w hw => ?_, hd⟩
  unfold wsV at hw
  simp only [List.cons_append, List.nil_append, List.mem_cons, List.not_mem_nil, or_false] at hw
  rcases hw with rfl | rfl | rfl | rfl | rfl
  · exact ⟨tw_in w1 rfl, Or.inl rfl⟩
  · exact ⟨tw_in w2 rfl, Or.inl rfl⟩
  · exact ⟨tw_in w3 rfl, Or.inl rfl⟩
  · exact ⟨tw_in w4 rfl, Or.inl rfl⟩
  · exact ⟨tw_in w5 rfl, Or.inl rfl⟩
theorem csS_of {own : String} {idx : Nat} {y : MethodName} {cy : ByteArray} {ny : Nat} {rety : Option FieldType} {na : Nat} (w1 : Cond.methodLink own idx y ∈ lw_tbl) (w2 : Cond.static y ∈ lw_tbl) (w4 : Cond.initialized y.cls ∈ lw_tbl) (w5 : Cond.code y cy ny rety ∈ lw_tbl)
    (hd : (y.cls ≠ "java/lang/invoke/MethodHandle" ∧ y.cls ≠ "java/lang/invoke/VarHandle") ∧ (parseMethodDescriptor y.desc).map (fun d => d.parameters.length) = some na) : CsS own idx y cy ny rety na := by
  refine ⟨fun w hw => ?_, hd⟩
  unfold va_wsS at hw
  simp only [List.cons_append, List.nil_append, List.mem_cons, List.not_mem_nil, or_false] at hw
  rcases hw with rfl | rfl | rfl | rfl
  · exact ⟨tw_in w1 rfl, Or.inl rfl⟩
  · exact ⟨tw_in w2 rfl, Or.inl rfl⟩
  · exact ⟨tw_in w4 rfl, Or.inl rfl⟩
  · exact ⟨tw_in w5 rfl, Or.inl rfl⟩
section RC
variable {X : XX} {G : GG} {Z : ZZ} {M : Mem} {k n : Nat} {Q : State → Prop} {pc : Nat} {L : List (Nat × Value)} {st : List Value} {own : String} {cc : ByteArray} {ret : Option FieldType} {d mc ms nL : Nat}
variable {y : MethodName} {cy : ByteArray} {ny dy na idx : Nat} {rety : Option FieldType} {As : List Value}
theorem r_callVI {β : Type} {f : Option (Int32 × Mem)} {K : Int32 → Mem → Option β} {res : β} (rest : List Value) (C : ∀ (r : Int32) (M1 : Mem), f = some (r, M1) → CN (QcI G Z r M1) (xl X) G Z y cy ny rety dy As M) (hf : ob f K = some res) (cs : CsV own idx y cy ny rety na) (hC : Cx X G own cc ret d mc ms nL) {i ci N : Nat} {F : Nat → Option (Option Nat)} {q0 : vw_C} (hi : At Z i (.inl (ci, N, F))) (hc : vwCl[ci]? = some q0) (hq : q0.1 = y.cls) (As' : List Value) (hAs : As = .ref (Z.1 i) :: As') (hn : As'.length = na) (hst : st = As'.reverse ++ .ref (Z.1 i) :: rest) (hd : dy + 1 ≤ d) (hlo : 8 + (ny + 11) + 40 * dy ≤ 40 * d) (hrest : (rest.map fun v => v.category).sum ≤ 8) (hk : k ≤ mc) (hm : n ≤ ms) (hdg : decode cc pc = .ok (.invokevirtual idx, 3))
    (kk : ∀ (r : Int32) (M1 : Mem), K r M1 = some res → V X G Z M1 k n Q (pc + 3) L (.int r :: rest)) : V X G Z M k n Q pc L st := by
  cases f with
  | none => cases hf
  | some p =>
    obtain ⟨r0, M1⟩ := p
    have C := C r0 M1 rfl
    have kk := kk r0 M1 hf
    have hC0 := hC
    obtain ⟨⟨hx, hb, hr, hml, hn'⟩, hown, htw, hlk, hK, hA, hsg, hst', hR⟩ := hC
    obtain ⟨g1, g2, g3⟩ := cs
    subst hst
    subst hAs
    intro H locs ls hP hS hl
    obtain ⟨hR1, hR2, hR3, hR4⟩ := hR
    obtain ⟨q, -, hq1⟩ := wv_get (G := G) (M := M) hi
    have cw := cwV (R := xR X) (rm := rmd dy 0 0) (mc := 0) (ms := 0) na (htw.use (xa X)) g1 rfl rfl rfl ⟨rfl, g2.1, g2.2, g3⟩ ⟨by rw [hR1]; exact hd, Nat.le_trans hlo hR2⟩
    have run := va_runV (own := own) (C := y.cls) (g := F0 (xm X) pc ls (As'.reverse ++ .ref (Z.1 i) :: rest)) (H := H) (locs := locs) (cells := k) (slots := n) (e := xe X) (below := xb X) (meth := xM X) ⟨hx, hb, hml, hown, htw.use (xa X)⟩ C cw ⟨Wd.blind _, by have h9 := va_recv hK hP hc hq1; rw [hq] at h9; exact h9, fun U hU hW => ⟨rfl, Wd.mk hC0 hP hS hU hW⟩⟩ rfl hn (by show ls.size = nL; rw [hl.1, hn']) rfl (lv_room hrest) hdg ⟨by rw [hR3]; exact hk, by rw [hR4]; exact hm⟩
    refine va_calli run hS (fun q _ h => h) (fun q h => h) (fun r u t H1 locs1 ht hvm he hB _ _ hS1 => ?_)
    subst he; subst ht
    exact kk t.heap locs1 ls hB hS1 hl
theorem r_callVV {β : Type} {f : Option (Unit × Mem)} {K : Unit → Mem → Option β} {res : β} (rest : List Value) (C : ∀ (r : Unit) (M1 : Mem), f = some (r, M1) → CN (QcV G Z r M1) (xl X) G Z y cy ny rety dy As M) (hf : ob f K = some res) (cs : CsV own idx y cy ny rety na) (hC : Cx X G own cc ret d mc ms nL) {i ci N : Nat} {F : Nat → Option (Option Nat)} {q0 : vw_C} (hi : At Z i (.inl (ci, N, F))) (hc : vwCl[ci]? = some q0) (hq : q0.1 = y.cls) (As' : List Value) (hAs : As = .ref (Z.1 i) :: As') (hn : As'.length = na) (hst : st = As'.reverse ++ .ref (Z.1 i) :: rest) (hd : dy + 1 ≤ d) (hlo : 8 + (ny + 11) + 40 * dy ≤ 40 * d) (hrest : (rest.map fun v => v.category).sum ≤ 8) (hk : k ≤ mc) (hm : n ≤ ms) (hdg : decode cc pc = .ok (.invokevirtual idx, 3))
    (kk : ∀ (r : Unit) (M1 : Mem), K r M1 = some res → V X G Z M1 k n Q (pc + 3) L rest) : V X G Z M k n Q pc L st := by
  cases f with
  | none => cases hf
  | some p =>
    obtain ⟨r0, M1⟩ := p
    have C := C r0 M1 rfl
    have kk := kk r0 M1 hf
    have hC0 := hC
    obtain ⟨⟨hx, hb, hr, hml, hn'⟩, hown, htw, hlk, hK, hA, hsg, hst', hR⟩ := hC
    obtain ⟨g1, g2, g3⟩ := cs
    subst hst
    subst hAs
    intro H locs ls hP hS hl
    obtain ⟨hR1, hR2, hR3, hR4⟩ := hR
    obtain ⟨q, -, hq1⟩ := wv_get (G := G) (M := M) hi
    have cw := cwV (R := xR X) (rm := rmd dy 0 0) (mc := 0) (ms := 0) na (htw.use (xa X)) g1 rfl rfl rfl ⟨rfl, g2.1, g2.2, g3⟩ ⟨by rw [hR1]; exact hd, Nat.le_trans hlo hR2⟩
    have run := va_runV (own := own) (C := y.cls) (g := F0 (xm X) pc ls (As'.reverse ++ .ref (Z.1 i) :: rest)) (H := H) (locs := locs) (cells := k) (slots := n) (e := xe X) (below := xb X) (meth := xM X) ⟨hx, hb, hml, hown, htw.use (xa X)⟩ C cw ⟨Wd.blind _, by have h9 := va_recv hK hP hc hq1; rw [hq] at h9; exact h9, fun U hU hW => ⟨rfl, Wd.mk hC0 hP hS hU hW⟩⟩ rfl hn (by show ls.size = nL; rw [hl.1, hn']) rfl (lv_room hrest) hdg ⟨by rw [hR3]; exact hk, by rw [hR4]; exact hm⟩
    refine va_callv run hS (fun q _ h => h) (fun q h => h) (fun u t H1 locs1 ht hvm he hB _ _ hS1 => ?_)
    subst ht
    exact kk t.heap locs1 ls hB hS1 hl
theorem r_callVR {β : Type} {f : Option (Nat × Mem)} {K : Nat → Mem → Option β} {res : β} {ido : Nat → Nat} (rest : List Value) (C : ∀ (r : Nat) (M1 : Mem), f = some (r, M1) → CN (QcR ido G Z r M1) (xl X) G Z y cy ny rety dy As M) (hf : ob f K = some res) (cs : CsV own idx y cy ny rety na) (hC : Cx X G own cc ret d mc ms nL) {i ci N : Nat} {F : Nat → Option (Option Nat)} {q0 : vw_C} (hi : At Z i (.inl (ci, N, F))) (hc : vwCl[ci]? = some q0) (hq : q0.1 = y.cls) (As' : List Value) (hAs : As = .ref (Z.1 i) :: As') (hn : As'.length = na) (hst : st = As'.reverse ++ .ref (Z.1 i) :: rest) (hd : dy + 1 ≤ d) (hlo : 8 + (ny + 11) + 40 * dy ≤ 40 * d) (hrest : (rest.map fun v => v.category).sum ≤ 8) (hk : k ≤ mc) (hm : n ≤ ms) (hdg : decode cc pc = .ok (.invokevirtual idx, 3))
    (kk : ∀ (r : Nat) (M1 : Mem), K r M1 = some res → V X G Z M1 k n Q (pc + 3) L (.ref (Z.1 (ido r)) :: rest)) : V X G Z M k n Q pc L st := by
  cases f with
  | none => cases hf
  | some p =>
    obtain ⟨r0, M1⟩ := p
    have C := C r0 M1 rfl
    have kk := kk r0 M1 hf
    have hC0 := hC
    obtain ⟨⟨hx, hb, hr, hml, hn'⟩, hown, htw, hlk, hK, hA, hsg, hst', hR⟩ := hC
    obtain ⟨g1, g2, g3⟩ := cs
    subst hst
    subst hAs
    intro H locs ls hP hS hl
    obtain ⟨hR1, hR2, hR3, hR4⟩ := hR
    obtain ⟨q, -, hq1⟩ := wv_get (G := G) (M := M) hi
    have cw := cwV (R := xR X) (rm := rmd dy 0 0) (mc := 0) (ms := 0) na (htw.use (xa X)) g1 rfl rfl rfl ⟨rfl, g2.1, g2.2, g3⟩ ⟨by rw [hR1]; exact hd, Nat.le_trans hlo hR2⟩
    have run := va_runV (own := own) (C := y.cls) (g := F0 (xm X) pc ls (As'.reverse ++ .ref (Z.1 i) :: rest)) (H := H) (locs := locs) (cells := k) (slots := n) (e := xe X) (below := xb X) (meth := xM X) ⟨hx, hb, hml, hown, htw.use (xa X)⟩ C cw ⟨Wd.blind _, by have h9 := va_recv hK hP hc hq1; rw [hq] at h9; exact h9, fun U hU hW => ⟨rfl, Wd.mk hC0 hP hS hU hW⟩⟩ rfl hn (by show ls.size = nL; rw [hl.1, hn']) rfl (lv_room hrest) hdg ⟨by rw [hR3]; exact hk, by rw [hR4]; exact hm⟩
    refine va_callr run hS (fun q _ h => h) (fun q h => h) (fun u ra t H1 locs1 ht hvm he hB _ _ hS1 => ?_)
    obtain ⟨rfl, hB⟩ := hB
    subst ht
    exact kk t.heap locs1 ls hB hS1 hl
theorem r_callSI {β : Type} {f : Option (Int32 × Mem)} {K : Int32 → Mem → Option β} {res : β} (rest : List Value) (C : ∀ (r : Int32) (M1 : Mem), f = some (r, M1) → CN (QcI G Z r M1) (xl X) G Z y cy ny rety dy As M) (hf : ob f K = some res) (cs : CsS own idx y cy ny rety na) (hC : Cx X G own cc ret d mc ms nL) (hn : As.length = na) (hst : st = As.reverse ++ rest) (hd : dy + 1 ≤ d) (hlo : 8 + (ny + 11) + 40 * dy ≤ 40 * d) (hrest : (rest.map fun v => v.category).sum ≤ 8) (hk : k ≤ mc) (hm : n ≤ ms) (hdg : decode cc pc = .ok (.invokestatic idx, 3))
    (kk : ∀ (r : Int32) (M1 : Mem), K r M1 = some res → V X G Z M1 k n Q (pc + 3) L (.int r :: rest)) : V X G Z M k n Q pc L st := by
  cases f with
  | none => cases hf
  | some p =>
    obtain ⟨r0, M1⟩ := p
    have C := C r0 M1 rfl
    have kk := kk r0 M1 hf
    have hC0 := hC
    obtain ⟨⟨hx, hb, hr, hml, hn'⟩, hown, htw, hlk, hK, hA, hsg, hst', hR⟩ := hC
    obtain ⟨g1, g2, g3⟩ := cs
    subst hst
    intro H locs ls hP hS hl
    obtain ⟨hR1, hR2, hR3, hR4⟩ := hR
    have cw := va_cwS (R := xR X) (rm := rmd dy 0 0) (mc := 0) (ms := 0) na (htw.use (xa X)) g1 rfl rfl rfl ⟨g2.1, g2.2, g3⟩ ⟨by rw [hR1]; exact hd, Nat.le_trans hlo hR2⟩
    have run := va_runS (own := own) (g := F0 (xm X) pc ls (As.reverse ++ rest)) (H := H) (locs := locs) (cells := k) (slots := n) (e := xe X) (below := xb X) (meth := xM X) ⟨hx, hb, hml, hown, htw.use (xa X)⟩ C cw ⟨Wd.blind _, fun U hU hW => ⟨rfl, Wd.mk hC0 hP hS hU hW⟩⟩ rfl hn (by show ls.size = nL; rw [hl.1, hn']) rfl (lv_room hrest) hdg ⟨by rw [hR3]; exact hk, by rw [hR4]; exact hm⟩
    refine va_calli run hS (fun q _ h => h) (fun q h => h) (fun r u t H1 locs1 ht hvm he hB _ _ hS1 => ?_)
    subst he; subst ht
    exact kk t.heap locs1 ls hB hS1 hl
theorem r_callSL {β : Type} {f : Option (Int64 × Mem)} {K : Int64 → Mem → Option β} {res : β} (rest : List Value) (C : ∀ (r : Int64) (M1 : Mem), f = some (r, M1) → CN (QcL G Z r M1) (xl X) G Z y cy ny rety dy As M) (hf : ob f K = some res) (cs : CsS own idx y cy ny rety na) (hC : Cx X G own cc ret d mc ms nL) (hn : As.length = na) (hst : st = As.reverse ++ rest) (hd : dy + 1 ≤ d) (hlo : 8 + (ny + 11) + 40 * dy ≤ 40 * d) (hrest : (rest.map fun v => v.category).sum ≤ 8) (hk : k ≤ mc) (hm : n ≤ ms) (hdg : decode cc pc = .ok (.invokestatic idx, 3))
    (kk : ∀ (r : Int64) (M1 : Mem), K r M1 = some res → V X G Z M1 k n Q (pc + 3) L (.long r :: rest)) : V X G Z M k n Q pc L st := by
  cases f with
  | none => cases hf
  | some p =>
    obtain ⟨r0, M1⟩ := p
    have C := C r0 M1 rfl
    have kk := kk r0 M1 hf
    have hC0 := hC
    obtain ⟨⟨hx, hb, hr, hml, hn'⟩, hown, htw, hlk, hK, hA, hsg, hst', hR⟩ := hC
    obtain ⟨g1, g2, g3⟩ := cs
    subst hst
    intro H locs ls hP hS hl
    obtain ⟨hR1, hR2, hR3, hR4⟩ := hR
    have cw := va_cwS (R := xR X) (rm := rmd dy 0 0) (mc := 0) (ms := 0) na (htw.use (xa X)) g1 rfl rfl rfl ⟨g2.1, g2.2, g3⟩ ⟨by rw [hR1]; exact hd, Nat.le_trans hlo hR2⟩
    have run := va_runS (own := own) (g := F0 (xm X) pc ls (As.reverse ++ rest)) (H := H) (locs := locs) (cells := k) (slots := n) (e := xe X) (below := xb X) (meth := xM X) ⟨hx, hb, hml, hown, htw.use (xa X)⟩ C cw ⟨Wd.blind _, fun U hU hW => ⟨rfl, Wd.mk hC0 hP hS hU hW⟩⟩ rfl hn (by show ls.size = nL; rw [hl.1, hn']) rfl (lv_room hrest) hdg ⟨by rw [hR3]; exact hk, by rw [hR4]; exact hm⟩
    refine va_calll run hS (fun q _ h => h) (fun q h => h) (fun r u t H1 locs1 ht hvm he hB _ _ hS1 => ?_)
    subst he; subst ht
    exact kk t.heap locs1 ls hB hS1 hl
theorem r_callSV {β : Type} {f : Option (Unit × Mem)} {K : Unit → Mem → Option β} {res : β} (rest : List Value) (C : ∀ (r : Unit) (M1 : Mem), f = some (r, M1) → CN (QcV G Z r M1) (xl X) G Z y cy ny rety dy As M) (hf : ob f K = some res) (cs : CsS own idx y cy ny rety na) (hC : Cx X G own cc ret d mc ms nL) (hn : As.length = na) (hst : st = As.reverse ++ rest) (hd : dy + 1 ≤ d) (hlo : 8 + (ny + 11) + 40 * dy ≤ 40 * d) (hrest : (rest.map fun v => v.category).sum ≤ 8) (hk : k ≤ mc) (hm : n ≤ ms) (hdg : decode cc pc = .ok (.invokestatic idx, 3))
    (kk : ∀ (r : Unit) (M1 : Mem), K r M1 = some res → V X G Z M1 k n Q (pc + 3) L rest) : V X G Z M k n Q pc L st := by
  cases f with
  | none => cases hf
  | some p =>
    obtain ⟨r0, M1⟩ := p
    have C := C r0 M1 rfl
    have kk := kk r0 M1 hf
    have hC0 := hC
    obtain ⟨⟨hx, hb, hr, hml, hn'⟩, hown, htw, hlk, hK, hA, hsg, hst', hR⟩ := hC
    obtain ⟨g1, g2, g3⟩ := cs
    subst hst
    intro H locs ls hP hS hl
    obtain ⟨hR1, hR2, hR3, hR4⟩ := hR
    have cw := va_cwS (R := xR X) (rm := rmd dy 0 0) (mc := 0) (ms := 0) na (htw.use (xa X)) g1 rfl rfl rfl ⟨g2.1, g2.2, g3⟩ ⟨by rw [hR1]; exact hd, Nat.le_trans hlo hR2⟩
    have run := va_runS (own := own) (g := F0 (xm X) pc ls (As.reverse ++ rest)) (H := H) (locs := locs) (cells := k) (slots := n) (e := xe X) (below := xb X) (meth := xM X) ⟨hx, hb, hml, hown, htw.use (xa X)⟩ C cw ⟨Wd.blind _, fun U hU hW => ⟨rfl, Wd.mk hC0 hP hS hU hW⟩⟩ rfl hn (by show ls.size = nL; rw [hl.1, hn']) rfl (lv_room hrest) hdg ⟨by rw [hR3]; exact hk, by rw [hR4]; exact hm⟩
    refine va_callv run hS (fun q _ h => h) (fun q h => h) (fun u t H1 locs1 ht hvm he hB _ _ hS1 => ?_)
    subst ht
    exact kk t.heap locs1 ls hB hS1 hl
theorem r_xcallVV {β : Type} {e0 : Nat} {M0 : Mem} {res : Except Nat β} {M' : Mem} {Qc : Array Value → State → Outcome → State → Prop} {mcy msy : Nat} (rest : List Value) (C : CTw (QcTV G Z (.error e0) M0) (XcT G Z (.error e0 : Except Nat Unit) M0) (xl X) G Z y cy ny rety dy mcy msy As M) (hf : some (Except.error e0, M0) = some (res, M')) (cs : CsV own idx y cy ny rety na) (hC : Cx X G own cc ret d mc ms nL) (hno : ∀ x ∈ (xc X).exceptionTable.toList, False) {i ci N : Nat} {F : Nat → Option (Option Nat)} {q0 : vw_C} (hi : At Z i (.inl (ci, N, F))) (hc : vwCl[ci]? = some q0) (hq : q0.1 = y.cls) (As' : List Value) (hAs : As = .ref (Z.1 i) :: As') (hn : As'.length = na) (hst : st = As'.reverse ++ .ref (Z.1 i) :: rest) (hd : dy + 1 ≤ d) (hlo : 8 + (ny + 11) + 40 * dy ≤ 40 * d) (hrest : (rest.map fun v => v.category).sum ≤ 8) (hk : k + mcy ≤ mc) (hm : n + msy ≤ ms) (hdg : decode cc pc = .ok (.invokevirtual idx, 3)) :
    V X G Z M k n (QT X G Qc (XcT G Z res M') mc ms) pc L st := by
  have hC0 := hC
  obtain ⟨⟨hx, hb, hr, hml, hn'⟩, hown, htw, hlk, hK, hA, hsg, hst', hR⟩ := hC
  obtain ⟨g1, g2, g3⟩ := cs
  subst hst
  subst hAs
  intro H locs ls hP hS hl
  obtain ⟨hR1, hR2, hR3, hR4⟩ := hR
  obtain ⟨q, -, hq1⟩ := wv_get (G := G) (M := M) hi
  have cw := cwV (R := xR X) (rm := rmd dy mcy msy) (mc := mcy) (ms := msy) na (htw.use (xa X)) g1 rfl rfl rfl ⟨rfl, g2.1, g2.2, g3⟩ ⟨by rw [hR1]; exact hd, Nat.le_trans hlo hR2⟩
  have run := vx_runV (own := own) (C := y.cls) (g := F0 (xm X) pc ls (As'.reverse ++ .ref (Z.1 i) :: rest)) (H := H) (locs := locs) (cells := k) (slots := n) (e := xe X) (below := xb X) (meth := xM X) ⟨hx, hb, hml, hown, htw.use (xa X)⟩ C cw ⟨Wd.blind _, by have h9 := va_recv hK hP hc hq1; rw [hq] at h9; exact h9, fun U hU hW => ⟨rfl, Wd.mk hC0 hP hS hU hW⟩⟩ rfl hn (by show ls.size = nL; rw [hl.1, hn']) rfl (lv_room hrest) hdg ⟨by rw [hR3]; exact hk, by rw [hR4]; exact hm⟩
  refine vx_callv run hS (fun q _ h => h) (fun q h => h) (fun q _ h => h) (fun E ce q9 u t H1 locs1 ht hvm hu hB _ _ hS1 hce hcv hcl => ?_) (fun u t H1 locs1 ht hvm he hB _ _ hS1 => ?_)
  · obtain rfl : u = e0 := by cases hu; rfl
    obtain ⟨rfl, hB⟩ := hB
    cases hf
    subst ht
    exact vx_out (fun x hx => (hno x hx).elim) hlk hce hcv hcl (fun t2 ht2 hvm2 => ⟨u, rfl, ⟨rfl, by unfold Wp; rw [ht2]; exact hB⟩, hS1.F ht2⟩) hS1.2.2 hk hm
  · cases he
theorem r_tcallVV {β : Type} {f : Option (Except Nat Unit × Mem)} {K : Unit → Mem → Option (Except Nat β × Mem)} {res : Except Nat β} {M' : Mem} {Qc : Array Value → State → Outcome → State → Prop} {mcy msy : Nat} (rest : List Value) (C : ∀ (r : Except Nat Unit) (M1 : Mem), f = some (r, M1) → CTw (QcTV G Z r M1) (XcT G Z r M1) (xl X) G Z y cy ny rety dy mcy msy As M) (Ck : ∀ (r : Unit) (M1 : Mem), f = some (.ok r, M1) → CN (QcV G Z r M1) (xl X) G Z y cy ny rety dy As M) (hf : oe f K = some (res, M')) (cs : CsV own idx y cy ny rety na) (hC : Cx X G own cc ret d mc ms nL) (hno : ∀ x ∈ (xc X).exceptionTable.toList, False) {i ci N : Nat} {F : Nat → Option (Option Nat)} {q0 : vw_C} (hi : At Z i (.inl (ci, N, F))) (hc : vwCl[ci]? = some q0) (hq : q0.1 = y.cls) (As' : List Value) (hAs : As = .ref (Z.1 i) :: As') (hn : As'.length = na) (hst : st = As'.reverse ++ .ref (Z.1 i) :: rest) (hd : dy + 1 ≤ d) (hlo : 8 + (ny + 11) + 40 * dy ≤ 40 * d) (hrest : (rest.map fun v => v.category).sum ≤ 8) (hk : k + mcy ≤ mc) (hm : n + msy ≤ ms) (hdg : decode cc pc = .ok (.invokevirtual idx, 3))
    (kk : ∀ (r : Unit) (M1 : Mem), K r M1 = some (res, M') → V X G Z M1 k n (QT X G Qc (XcT G Z res M') mc ms) (pc + 3) L rest) : V X G Z M k n (QT X G Qc (XcT G Z res M') mc ms) pc L st := by
  cases f with
  | none => cases hf
  | some p =>
    obtain ⟨r0, M1⟩ := p
    cases r0 with
    | error e0 => exact r_xcallVV rest (C _ _ rfl) hf cs hC hno hi hc hq As' hAs hn hst hd hlo hrest hk hm hdg
    | ok u => exact r_callVV (f := some (u, M1)) (K := K) (res := (res, M')) rest (fun r M2 h => by cases h; exact Ck _ _ rfl) hf cs hC hi hc hq As' hAs hn hst hd hlo hrest (by omega) (by omega) hdg kk
theorem r_kcallVV {β : Type} {f : Option (Except Nat Unit × Mem)} {K : Unit → Mem → Option (Except Nat β × Mem)} {res : β} {M' : Mem} (rest : List Value) (Ck : ∀ (r : Unit) (M1 : Mem), f = some (.ok r, M1) → CN (QcV G Z r M1) (xl X) G Z y cy ny rety dy As M) (hf : oe f K = some (.ok res, M')) (cs : CsV own idx y cy ny rety na) (hC : Cx X G own cc ret d mc ms nL) {i ci N : Nat} {F : Nat → Option (Option Nat)} {q0 : vw_C} (hi : At Z i (.inl (ci, N, F))) (hc : vwCl[ci]? = some q0) (hq : q0.1 = y.cls) (As' : List Value) (hAs : As = .ref (Z.1 i) :: As') (hn : As'.length = na) (hst : st = As'.reverse ++ .ref (Z.1 i) :: rest) (hd : dy + 1 ≤ d) (hlo : 8 + (ny + 11) + 40 * dy ≤ 40 * d) (hrest : (rest.map fun v => v.category).sum ≤ 8) (hk : k ≤ mc) (hm : n ≤ ms) (hdg : decode cc pc = .ok (.invokevirtual idx, 3))
    (kk : ∀ (r : Unit) (M1 : Mem), K r M1 = some (.ok res, M') → V X G Z M1 k n Q (pc + 3) L rest) : V X G Z M k n Q pc L st := by
  cases f with
  | none => cases hf
  | some p =>
    obtain ⟨r0, M1⟩ := p
    cases r0 with
    | error e0 => cases hf
    | ok u => exact r_callVV (f := some (u, M1)) (K := K) (res := (.ok res, M')) rest (fun r M2 h => by cases h; exact Ck _ _ rfl) hf cs hC hi hc hq As' hAs hn hst hd hlo hrest hk hm hdg kk
theorem r_xcallSV {β : Type} {e0 : Nat} {M0 : Mem} {res : Except Nat β} {M' : Mem} {Qc : Array Value → State → Outcome → State → Prop} {mcy msy : Nat} (rest : List Value) (C : CTw (QcTV G Z (.error e0) M0) (XcT G Z (.error e0 : Except Nat Unit) M0) (xl X) G Z y cy ny rety dy mcy msy As M) (hf : some (Except.error e0, M0) = some (res, M')) (cs : CsS own idx y cy ny rety na) (hC : Cx X G own cc ret d mc ms nL) (hno : ∀ x ∈ (xc X).exceptionTable.toList, False) (hn : As.length = na) (hst : st = As.reverse ++ rest) (hd : dy + 1 ≤ d) (hlo : 8 + (ny + 11) + 40 * dy ≤ 40 * d) (hrest : (rest.map fun v => v.category).sum ≤ 8) (hk : k + mcy ≤ mc) (hm : n + msy ≤ ms) (hdg : decode cc pc = .ok (.invokestatic idx, 3)) :
    V X G Z M k n (QT X G Qc (XcT G Z res M') mc ms) pc L st := by
  have hC0 := hC
  obtain ⟨⟨hx, hb, hr, hml, hn'⟩, hown, htw, hlk, hK, hA, hsg, hst', hR⟩ := hC
  obtain ⟨g1, g2, g3⟩ := cs
  subst hst
  intro H locs ls hP hS hl
  obtain ⟨hR1, hR2, hR3, hR4⟩ := hR
  have cw := va_cwS (R := xR X) (rm := rmd dy mcy msy) (mc := mcy) (ms := msy) na (htw.use (xa X)) g1 rfl rfl rfl ⟨g2.1, g2.2, g3⟩ ⟨by rw [hR1]; exact hd, Nat.le_trans hlo hR2⟩
  have run := vx_runS (own := own) (g := F0 (xm X) pc ls (As.reverse ++ rest)) (H := H) (locs := locs) (cells := k) (slots := n) (e := xe X) (below := xb X) (meth := xM X) ⟨hx, hb, hml, hown, htw.use (xa X)⟩ C cw ⟨Wd.blind _, fun U hU hW => ⟨rfl, Wd.mk hC0 hP hS hU hW⟩⟩ rfl hn (by show ls.size = nL; rw [hl.1, hn']) rfl (lv_room hrest) hdg ⟨by rw [hR3]; exact hk, by rw [hR4]; exact hm⟩
  refine vx_callv run hS (fun q _ h => h) (fun q h => h) (fun q _ h => h) (fun E ce q9 u t H1 locs1 ht hvm hu hB _ _ hS1 hce hcv hcl => ?_) (fun u t H1 locs1 ht hvm he hB _ _ hS1 => ?_)
  · obtain rfl : u = e0 := by cases hu; rfl
    obtain ⟨rfl, hB⟩ := hB
    cases hf
    subst ht
    exact vx_out (fun x hx => (hno x hx).elim) hlk hce hcv hcl (fun t2 ht2 hvm2 => ⟨u, rfl, ⟨rfl, by unfold Wp; rw [ht2]; exact hB⟩, hS1.F ht2⟩) hS1.2.2 hk hm
  · cases he
theorem r_tcallSV {β : Type} {f : Option (Except Nat Unit × Mem)} {K : Unit → Mem → Option (Except Nat β × Mem)} {res : Except Nat β} {M' : Mem} {Qc : Array Value → State → Outcome → State → Prop} {mcy msy : Nat} (rest : List Value) (C : ∀ (r : Except Nat Unit) (M1 : Mem), f = some (r, M1) → CTw (QcTV G Z r M1) (XcT G Z r M1) (xl X) G Z y cy ny rety dy mcy msy As M) (Ck : ∀ (r : Unit) (M1 : Mem), f = some (.ok r, M1) → CN (QcV G Z r M1) (xl X) G Z y cy ny rety dy As M) (hf : oe f K = some (res, M')) (cs : CsS own idx y cy ny rety na) (hC : Cx X G own cc ret d mc ms nL) (hno : ∀ x ∈ (xc X).exceptionTable.toList, False) (hn : As.length = na) (hst : st = As.reverse ++ rest) (hd : dy + 1 ≤ d) (hlo : 8 + (ny + 11) + 40 * dy ≤ 40 * d) (hrest : (rest.map fun v => v.category).sum ≤ 8) (hk : k + mcy ≤ mc) (hm : n + msy ≤ ms) (hdg : decode cc pc = .ok (.invokestatic idx, 3))
    (kk : ∀ (r : Unit) (M1 : Mem), K r M1 = some (res, M') → V X G Z M1 k n (QT X G Qc (XcT G Z res M') mc ms) (pc + 3) L rest) : V X G Z M k n (QT X G Qc (XcT G Z res M') mc ms) pc L st := by
  cases f with
  | none => cases hf
  | some p =>
    obtain ⟨r0, M1⟩ := p
    cases r0 with
    | error e0 => exact r_xcallSV rest (C _ _ rfl) hf cs hC hno hn hst hd hlo hrest hk hm hdg
    | ok u => exact r_callSV (f := some (u, M1)) (K := K) (res := (res, M')) rest (fun r M2 h => by cases h; exact Ck _ _ rfl) hf cs hC hn hst hd hlo hrest (by omega) (by omega) hdg kk
theorem r_kcallSV {β : Type} {f : Option (Except Nat Unit × Mem)} {K : Unit → Mem → Option (Except Nat β × Mem)} {res : β} {M' : Mem} (rest : List Value) (Ck : ∀ (r : Unit) (M1 : Mem), f = some (.ok r, M1) → CN (QcV G Z r M1) (xl X) G Z y cy ny rety dy As M) (hf : oe f K = some (.ok res, M')) (cs : CsS own idx y cy ny rety na) (hC : Cx X G own cc ret d mc ms nL) (hn : As.length = na) (hst : st = As.reverse ++ rest) (hd : dy + 1 ≤ d) (hlo : 8 + (ny + 11) + 40 * dy ≤ 40 * d) (hrest : (rest.map fun v => v.category).sum ≤ 8) (hk : k ≤ mc) (hm : n ≤ ms) (hdg : decode cc pc = .ok (.invokestatic idx, 3))
    (kk : ∀ (r : Unit) (M1 : Mem), K r M1 = some (.ok res, M') → V X G Z M1 k n Q (pc + 3) L rest) : V X G Z M k n Q pc L st := by
  cases f with
  | none => cases hf
  | some p =>
    obtain ⟨r0, M1⟩ := p
    cases r0 with
    | error e0 => cases hf
    | ok u => exact r_callSV (f := some (u, M1)) (K := K) (res := (.ok res, M')) rest (fun r M2 h => by cases h; exact Ck _ _ rfl) hf cs hC hn hst hd hlo hrest hk hm hdg kk
end RC
