def CsW (own : String) (idx : Nat) (y : MethodName) (cy : ByteArray) (ny : Nat) (rety : Option FieldType) (hh : List (Nat × Nat × Nat × Nat)) (na : Nat) : Prop :=
  GoodIn TW (va_wsS own idx y [.codeWith y cy ny rety hh]) ∧ (y.cls ≠ "java/lang/invoke/MethodHandle" ∧ y.cls ≠ "java/lang/invoke/VarHandle") ∧ (parseMethodDescriptor y.desc).map (fun d => d.parameters.length) = some na
theorem csW_of {own : String} {idx : Nat} {y : MethodName} {cy : ByteArray} {ny : Nat} {rety : Option FieldType} {hh : List (Nat × Nat × Nat × Nat)} {na : Nat} (w1 : Cond.methodLink own idx y ∈ lw_tbl) (w2 : Cond.static y ∈ lw_tbl) (w4 : Cond.initialized y.cls ∈ lw_tbl) (w5 : Cond.codeWith y cy ny rety hh ∈ lw_tbl)
    (hd : (y.cls ≠ "java/lang/invoke/MethodHandle" ∧ y.cls ≠ "java/lang/invoke/VarHandle") ∧ (parseMethodDescriptor y.desc).map (fun d => d.parameters.length) = some na) : CsW own idx y cy ny rety hh na := by
  refine ⟨fun w hw => ?_, hd⟩
  unfold va_wsS at hw
  simp only [List.cons_append, List.nil_append, List.mem_cons, List.not_mem_nil, or_false] at hw
  rcases hw with rfl | rfl | rfl | rfl
  · exact ⟨tw_in w1 rfl, Or.inl rfl⟩
  · exact ⟨tw_in w2 rfl, Or.inl rfl⟩
  · exact ⟨tw_in w4 rfl, Or.inl rfl⟩
  · exact ⟨tw_in w5 rfl, Or.inl rfl⟩
def VX (X : XX) (G : GG) (Z : ZZ) (M : Mem) (k n : Nat) (Q : State → Prop) (pc : Nat) (L : List (Nat × Value)) (rest : List Value) (E : String) : Prop :=
  ∀ (H : Heap) (locs : List Loc) (ls : Array Slot) (q : Addr) (ce : Cell), va_P G.1 vwCl (wv G Z M) H → va_S G.2.2.1 (xs X).heap H locs → lv_has ls (xn X) L → H[q]? = some ce → ce.vm = .none → (xs X).vm.findClass E = some ce.cls → vx_W (xp X) (xl X) (xe X) (xR X) (xs X) (xm X) (xa X) (xb X) (xM X) (xc X) H locs k n Q (F0 (xm X) pc ls rest) q
def CW (Qc : Array Value → State → Outcome → State → Prop) (l : Launch) (G : GG) (Z : ZZ) (y : MethodName) (cc : ByteArray) (nL : Nat) (ret : Option FieldType) (hh : List (Nat × Nat × Nat × Nat)) (d mc ms : Nat) (As : List Value) (M : Mem) : Prop :=
  Met l y [.codeWith y cc nL ret hh] (rmd d mc ms) (va_Pc As (Wd G Z M)) Qc mc ms G.2.2.1
theorem CW.of {Qc : Array Value → State → Outcome → State → Prop} {l : Launch} {G : GG} {Z : ZZ} {y : MethodName} {cc : ByteArray} {nL : Nat} {ret : Option FieldType} {hh : List (Nat × Nat × Nat × Nat)} {d mc ms : Nat} {As : List Value} {M : Mem} (L0 : List (Nat × Value)) (hl : l.stackTraces = false) (hy : plainName y.cls = true) (hlen : (lg_sl As).length ≤ nL) (hL : lv_args 0 As = L0)
    (body : ∀ X : XX, Cx X G y.cls cc ret d mc ms nL → (xc X).exceptionTable.toList = tableOf hh → V X G Z M 0 0 (QN X G Qc mc ms) 0 L0 []) : CW Qc l G Z y cc nL ret hh d mc ms As M := by
  refine va_MetW (cc := cc) (maxL := nL) (ret := ret) (hh := hh) hy rfl ?_
  intro p e s m args below meth c s₁ B hml hv
  obtain ⟨rfl, hP, hK, hA, hsg, htw⟩ := hv
  have hown : s.vm.findClass y.cls = some m.cls := findClass_of_methodNamed B.named
  have hcw := atoms_spec (ws := [.codeWith y cc nL ret hh]) B.pre _ List.mem_cons_self
  have ht := vx_table (x := y) B hcw
  have hl0 := lv_entry As (n := nL) hlen
  rw [hL] at hl0
  rw [lg_entry_eq]
  exact body (p, l, e, rmd d mc ms, s, m, As.toArray, below, meth, c, nL) ⟨⟨B.exec, B.bytes, B.returns, hml, rfl⟩, hown, htw, B.notSynchronized, hK, hA, hsg, hl, rfl, Nat.le_refl _, rfl, rfl⟩ ht s.heap [] _ hP va_S.rf hl0
section RW
variable {X : XX} {G : GG} {Z : ZZ} {M : Mem} {k n : Nat} {Q : State → Prop} {pc : Nat} {L : List (Nat × Value)} {st : List Value} {own : String} {cc : ByteArray} {ret : Option FieldType} {d mc ms nL : Nat}
variable {y : MethodName} {cy : ByteArray} {ny dy na idx : Nat} {rety : Option FieldType} {As : List Value}
theorem r_hcallVI {f : Option (Except Nat Int32 × Mem)} {mcy msy : Nat} (rest : List Value) (C : ∀ (r : Except Nat Int32) (M1 : Mem), f = some (r, M1) → CTw (QcTI G Z r M1) (XcT G Z r M1) (xl X) G Z y cy ny rety dy mcy msy As M) (cs : CsV own idx y cy ny rety na) (hC : Cx X G own cc ret d mc ms nL) {i ci N : Nat} {F : Nat → Option (Option Nat)} {q0 : vw_C} (hi : At Z i (.inl (ci, N, F))) (hc : vwCl[ci]? = some q0) (hq : q0.1 = y.cls) (As' : List Value) (hAs : As = .ref (Z.1 i) :: As') (hn : As'.length = na) (hst : st = As'.reverse ++ .ref (Z.1 i) :: rest) (hd : dy + 1 ≤ d) (hlo : 8 + (ny + 11) + 40 * dy ≤ 40 * d) (hrest : (rest.map fun v => v.category).sum ≤ 8) (hk : k + mcy ≤ mc) (hm : n + msy ≤ ms) (hdg : decode cc pc = .ok (.invokevirtual idx, 3))
    (h0 : f = none → False) (kx : ∀ (e : Nat) (M1 : Mem), f = some (.error e, M1) → VX X G Z M1 (k + mcy) (n + msy) Q pc L rest (exn e))
    (kk : ∀ (r : Int32) (M1 : Mem), f = some (.ok r, M1) → V X G Z M1 (k + mcy) (n + msy) Q (pc + 3) L (.int r :: rest)) : V X G Z M k n Q pc L st := by
  cases f with
  | none => exact (h0 rfl).elim
  | some p =>
    obtain ⟨r0, M1⟩ := p
    have C := C r0 M1 rfl
    have hC0 := hC
    obtain ⟨⟨hx, hb, hr, hml, hn'⟩, hown, htw, hlk, hK, hA, hsg, hst', hR⟩ := hC
    obtain ⟨g1, g2, g3⟩ := cs
    subst hst
    subst hAs
    intro H locs ls hP hS hl
    obtain ⟨hR1, hR2, hR3, hR4⟩ := hR
    obtain ⟨q, -, hq1⟩ := wv_get (G := G) (M := M) hi
    have cw := cwV (R := xR X) (rm := rmd dy mcy msy) (mc := mcy) (ms := msy) na (htw.use (xa X)) g1 rfl rfl rfl ⟨rfl, g2.1, g2.2, g3⟩ ⟨by rw [hR1]; exact hd, Nat.le_trans hlo hR2⟩
    have run := vx_runV (own := own) (C := y.cls) (g := F0 (xm X) pc ls (As'.reverse ++ .ref (Z.1 i) :: rest)) (H := H) (locs := locs) (cells := k) (slots := n) (e := xe X) (below := xb X) (meth := xM X) ⟨hx, hb, hml, hown, htw.use (xa X)⟩ C cw ⟨Wd.blind _, by have h9 := va_recv hK hP hc hq1; rw [hq] at h9; exact h9, fun U hU hW => ⟨rfl, Wd.mk hC0 hP hS hU hW⟩⟩ rfl hn (by show ls.size = nL; rw [hl.1, hn']) rfl (lv_room hrest) hdg ⟨by rw [hR3]; exact hk, by rw [hR4]; exact hm⟩
    refine vx_calli run hS (fun q _ h => h) (fun q h => h) (fun q _ h => h) (fun E ce q9 u t H1 locs1 ht hvm hu hB _ _ hS1 hce hcv hcl => ?_) (fun r u t H1 locs1 ht hvm he hB _ _ hS1 => ?_)
    · subst hu
      obtain ⟨rfl, hB⟩ := hB
      subst ht
      exact kx u M1 rfl t.heap locs1 ls q9 ce hB hS1 hl hce hcv hcl
    · subst he; subst ht
      exact kk r M1 rfl t.heap locs1 ls hB hS1 hl
theorem r_catch {e : Nat} {tb : List ExceptionTableEntry} {rest : List Value} (hC : Cx X G own cc ret d mc ms nL) (ht : (xc X).exceptionTable.toList = tb) (pre : List ExceptionTableEntry) (x : ExceptionTableEntry) (suf : List ExceptionTableEntry) (hs : tb = pre ++ x :: suf) (hcov : covers x pc = true) (hct : x.catchType ≠ 0) (hlink : Cond.classLink own x.catchType (exn e) ∈ TW) (hcast : Cond.castable (exn e) (exn e) ∈ TW) (he : e < 3)
    (hpass : ∀ z ∈ pre, z.catchType ≠ 0 ∧ ∃ a : Nat, a < 3 ∧ e ≠ a ∧ Cond.classLink own z.catchType (exn a) ∈ TW) (kk : ∀ q : Nat, V X G Z M k n Q x.handlerPc L [.ref q]) : VX X G Z M k n Q pc L rest (exn e) := by
  obtain ⟨⟨hx, hb, hr, hml, hn'⟩, hown, htw, hlk, hK, hA, hsg, hst', hR⟩ := hC
  intro H locs ls q ce hP hS hl hce hcv hcl
  refine vx_catch hown pre x suf (ht.trans hs) (fun z hz => ?_) hcov hct (htw.use _ _ hlink) (htw.use _ _ hcast) hce hcv hcl (kk q H locs ls hP hS hl)
  obtain ⟨h1, a, h2, h3, h4⟩ := hpass z hz
  exact Or.inr ⟨h1, exn a, htw.use _ _ h4, hsg.2.2.2.2.2 e a he h2 h3⟩
theorem r_wcall {β : Type} {f : Option (Int32 × Mem)} {K : Int32 → Mem → Option β} {res : β} {hh : List (Nat × Nat × Nat × Nat)} {mcy msy : Nat} (rest : List Value) (C : ∀ (r : Int32) (M1 : Mem), f = some (r, M1) → CW (QcI G Z r M1) (xl X) G Z y cy ny rety hh dy mcy msy As M) (hf : ob f K = some res) (cs : CsW own idx y cy ny rety hh na) (hC : Cx X G own cc ret d mc ms nL) (hn : As.length = na) (hst : st = As.reverse ++ rest) (hd : dy + 1 ≤ d) (hlo : 8 + (ny + 11) + 40 * dy ≤ 40 * d) (hrest : (rest.map fun v => v.category).sum ≤ 8) (hk : k + mcy ≤ mc) (hm : n + msy ≤ ms) (hdg : decode cc pc = .ok (.invokestatic idx, 3))
    (kk : ∀ (r : Int32) (M1 : Mem), K r M1 = some res → V X G Z M1 (k + mcy) (n + msy) Q (pc + 3) L (.int r :: rest)) : V X G Z M k n Q pc L st := by
  cases f with
  | none => cases hf
  | some p =>
    obtain ⟨r0, M1⟩ := p
    have C := C r0 M1 rfl
    have kk := kk r0 M1 hf
    have hC0 := hC
    obtain ⟨⟨hx, hb, hr, hml, hn'⟩, hown, htw, hlk, hK, hA, hsg, hst', hR⟩ := hC
    obtain ⟨g1, g2, g3⟩ := cs
    subst hst
    intro H locs ls hP hS hl
    obtain ⟨hR1, hR2, hR3, hR4⟩ := hR
    have cw := vx_cwSW (R := xR X) (rm := rmd dy mcy msy) (mc := mcy) (ms := msy) na (htw.use (xa X)) g1 rfl rfl rfl ⟨g2.1, g2.2, g3⟩ ⟨by rw [hR1]; exact hd, Nat.le_trans hlo hR2⟩
    have run := vx_runSW (own := own) (g := F0 (xm X) pc ls (As.reverse ++ rest)) (H := H) (locs := locs) (cells := k) (slots := n) (e := xe X) (below := xb X) (meth := xM X) ⟨hx, hb, hml, hown, htw.use (xa X)⟩ C cw ⟨Wd.blind _, fun U hU hW => ⟨rfl, Wd.mk hC0 hP hS hU hW⟩⟩ rfl hn (by show ls.size = nL; rw [hl.1, hn']) rfl (lv_room hrest) hdg ⟨by rw [hR3]; exact hk, by rw [hR4]; exact hm⟩
    refine va_calli run hS (fun q _ h => h) (fun q h => h) (fun r u t H1 locs1 ht hvm he hB _ _ hS1 => ?_)
    subst he; subst ht
    exact kk t.heap locs1 ls hB hS1 hl
end RW
theorem cs_L_7 : CsV RL 7 yX5_append cX5_append 2 (some .int) 1 := csV_of mm_485 mm_486 mm_487 mm_65 mm_488 (by decide +kernel)
theorem cs_L_17 : CsV RL 17 yX5_load cX5_load 2 (some .int) 0 := csV_of mm_579 mm_580 mm_581 mm_65 mm_582 (by decide +kernel)
theorem cs_L_21 : CsV RL 21 yX5_about cX5_about 2 (some .int) 1 := csV_of mm_591 mm_592 mm_593 mm_65 mm_594 (by decide +kernel)
theorem cs_L_24 : CsV RL 24 yX5_cell cX5_cell 4 (some .int) 3 := csV_of mm_613 mm_614 mm_615 mm_65 mm_616 (by decide +kernel)
theorem cs_L_30 : CsV RL 30 yX5_set cX5_set 4 (some .int) 2 := csV_of mm_651 mm_652 mm_653 mm_65 mm_654 (by decide +kernel)
theorem cs_L_34 : CsV RL 34 yX5_write cX5_write 5 (some .int) 3 := csV_of mm_670 mm_671 mm_672 mm_65 mm_673 (by decide +kernel)
theorem cs_L_38 : CsV RL 38 yX5_transpose cX5_transpose 3 (some .int) 2 := csV_of mm_685 mm_686 mm_687 mm_65 mm_688 (by decide +kernel)
theorem cs_L_41 : CsV RL 41 yX5_exchange cX5_exchange 3 (some .int) 2 := csV_of mm_700 mm_701 mm_702 mm_65 mm_703 (by decide +kernel)
theorem cs_L_44 : CsV RL 44 yX5_staff cX5_staff 2 (some .int) 1 := csV_of mm_711 mm_712 mm_713 mm_65 mm_714 (by decide +kernel)
theorem cs_L_48 : CsV RL 48 yX5_insertBeat cX5_insertBeat 2 (some .int) 1 := csV_of mm_727 mm_728 mm_729 mm_65 mm_730 (by decide +kernel)
theorem cs_L_51 : CsV RL 51 yX5_removeBeat cX5_removeBeat 2 (some .int) 1 := csV_of mm_738 mm_739 mm_740 mm_65 mm_741 (by decide +kernel)
theorem cs_L_54 : CsV RL 54 yX5_undo cX5_undo 1 (some .int) 0 := csV_of mm_749 mm_750 mm_751 mm_65 mm_752 (by decide +kernel)
theorem cs_L_57 : CsV RL 57 yX5_note cX5_note 4 (some .int) 3 := csV_of mm_764 mm_765 mm_766 mm_65 mm_767 (by decide +kernel)
theorem cs_L_60 : CsV RL 60 yX5_hand cX5_hand 4 (some .int) 3 := csV_of mm_779 mm_780 mm_781 mm_65 mm_782 (by decide +kernel)
theorem cs_L_63 : CsV RL 63 yX5_beat cX5_beat 3 (some .int) 2 := csV_of mm_792 mm_793 mm_794 mm_65 mm_795 (by decide +kernel)
theorem cs_L_66 : CsV RL 66 yX5_whole cX5_whole 2 (some .int) 1 := csV_of mm_803 mm_804 mm_805 mm_65 mm_806 (by decide +kernel)
theorem cs_L_69 : CsV RL 69 yX5_whatIf cX5_whatIf 4 (some .int) 3 := csV_of mm_810 mm_811 mm_812 mm_65 mm_813 (by decide +kernel)
theorem cs_L_72 : CsV RL 72 yX5_bestTransposition cX5_bestTransposition 7 (some .int) 1 := csV_of mm_817 mm_818 mm_819 mm_65 mm_820 (by decide +kernel)
theorem cs_L_75 : CsV RL 75 yX5_runScript cX5_runScript 5 (some .int) 2 := csV_of mm_824 mm_825 mm_826 mm_65 mm_827 (by decide +kernel)
theorem cs_L_79 : CsV RL 79 yX5_simulate cX5_simulate 8 (some .int) 2 := csV_of mm_856 mm_857 mm_858 mm_65 mm_859 (by decide +kernel)
theorem cs_L_83 : CsV RL 83 yX5_save cX5_save 2 (some .int) 1 := csV_of mm_869 mm_870 mm_871 mm_65 mm_872 (by decide +kernel)
theorem cs_L_86 : CsV RL 86 yX5_restore cX5_restore 2 (some .int) 1 := csV_of mm_879 mm_880 mm_881 mm_65 mm_882 (by decide +kernel)
theorem kw_cl_13 : Cond.classLink RL 13 (exn 0) ∈ TW := tw_in mm_483 rfl
theorem kw_cl_15 : Cond.classLink RL 15 (exn 1) ∈ TW := tw_in mm_484 rfl
theorem kw_cl_28 : Cond.classLink RL 28 (exn 2) ∈ TW := tw_in mm_612 rfl
theorem kw_cast_0 : Cond.castable (exn 0) (exn 0) ∈ TW := tw_in mm_491 rfl
theorem kw_cast_1 : Cond.castable (exn 1) (exn 1) ∈ TW := tw_in mm_558 rfl
theorem kw_cast_2 : Cond.castable (exn 2) (exn 2) ∈ TW := tw_in mm_628 rfl
theorem cs_L_93 : CsW RL 93 yL_append cL_append 4 (some .int) [(0, 9, 12, 13), (0, 9, 15, 15)] 3 := csW_of mm_480 mm_481 mm_64 mm_482 (by decide +kernel)
theorem cs_L_98 : CsV RL 98 yX6_append cX6_append 2 (some .int) 1 := csV_of mm_954 mm_955 mm_956 mm_71 mm_957 (by decide +kernel)
theorem cs_L_99 : CsV RL 99 yX6_thrown cX6_thrown 1 (some .int) 0 := csV_of mm_950 mm_951 mm_952 mm_71 mm_953 (by decide +kernel)
theorem cs_L_102 : CsV RL 102 yX5_clearText cX5_clearText 1 (some .int) 0 := csV_of mm_263 mm_264 mm_265 mm_65 mm_266 (by decide +kernel)
theorem cs_L_105 : CsV RL 105 yX6_clearText cX6_clearText 2 (some .int) 0 := csV_of mm_966 mm_967 mm_968 mm_71 mm_969 (by decide +kernel)
theorem cs_L_106 : CsV RL 106 yX5_errorPosition cX5_errorPosition 1 (some .int) 0 := csV_of mm_271 mm_272 mm_273 mm_65 mm_274 (by decide +kernel)
theorem cs_L_109 : CsV RL 109 yX6_errorPosition cX6_errorPosition 1 (some .int) 0 := csV_of mm_970 mm_971 mm_972 mm_71 mm_973 (by decide +kernel)
theorem cs_L_110 : CsW RL 110 yL_load cL_load 3 (some .int) [(0, 8, 11, 15)] 2 := csW_of mm_576 mm_577 mm_64 mm_578 (by decide +kernel)
theorem cs_L_113 : CsV RL 113 yX6_load cX6_load 1 (some .int) 0 := csV_of mm_997 mm_998 mm_999 mm_71 mm_1000 (by decide +kernel)
theorem cs_L_114 : CsW RL 114 yL_about cL_about 4 (some .int) [(0, 9, 12, 13)] 3 := csW_of mm_588 mm_589 mm_64 mm_590 (by decide +kernel)
theorem cs_L_116 : CsV RL 116 yX6_about cX6_about 2 (some .int) 1 := csV_of mm_1004 mm_1005 mm_1006 mm_71 mm_1007 (by decide +kernel)
theorem cs_L_117 : CsW RL 117 yL_cell cL_cell 6 (some .int) [(0, 12, 15, 28)] 5 := csW_of mm_609 mm_610 mm_64 mm_611 (by decide +kernel)
theorem cs_L_120 : CsV RL 120 yX6_cell cX6_cell 4 (some .int) 3 := csV_of mm_1013 mm_1014 mm_1015 mm_71 mm_1016 (by decide +kernel)
theorem cs_L_121 : CsW RL 121 yL_set cL_set 5 (some .int) [(0, 10, 13, 13)] 4 := csW_of mm_648 mm_649 mm_64 mm_650 (by decide +kernel)
theorem cs_L_124 : CsV RL 124 yX6_set cX6_set 4 (some .int) 2 := csV_of mm_1034 mm_1035 mm_1036 mm_71 mm_1037 (by decide +kernel)
theorem cs_L_125 : CsW RL 125 yL_write cL_write 6 (some .int) [(0, 12, 15, 28), (0, 12, 19, 13), (0, 12, 23, 15)] 5 := csW_of mm_667 mm_668 mm_64 mm_669 (by decide +kernel)
theorem cs_L_128 : CsV RL 128 yX6_write cX6_write 6 (some .int) 3 := csV_of mm_1046 mm_1047 mm_1048 mm_71 mm_1049 (by decide +kernel)
theorem cs_L_129 : CsW RL 129 yL_transpose cL_transpose 5 (some .int) [(0, 10, 13, 28), (0, 10, 17, 13), (0, 10, 21, 15)] 4 := csW_of mm_682 mm_683 mm_64 mm_684 (by decide +kernel)
theorem cs_L_131 : CsV RL 131 yX6_transpose cX6_transpose 3 (some .int) 2 := csV_of mm_1060 mm_1061 mm_1062 mm_71 mm_1063 (by decide +kernel)
theorem cs_L_132 : CsW RL 132 yL_exchange cL_exchange 5 (some .int) [(0, 10, 13, 28)] 4 := csW_of mm_697 mm_698 mm_64 mm_699 (by decide +kernel)
theorem cs_L_134 : CsV RL 134 yX6_exchange cX6_exchange 3 (some .int) 2 := csV_of mm_1071 mm_1072 mm_1073 mm_71 mm_1074 (by decide +kernel)
theorem cs_L_135 : CsW RL 135 yL_staff cL_staff 4 (some .int) [(0, 9, 12, 15)] 3 := csW_of mm_708 mm_709 mm_64 mm_710 (by decide +kernel)
theorem cs_L_138 : CsV RL 138 yX6_staff cX6_staff 3 (some .int) 1 := csV_of mm_1078 mm_1079 mm_1080 mm_71 mm_1081 (by decide +kernel)
theorem cs_L_139 : CsW RL 139 yL_insertBeat cL_insertBeat 4 (some .int) [(0, 9, 12, 28), (0, 9, 15, 15)] 3 := csW_of mm_724 mm_725 mm_64 mm_726 (by decide +kernel)
theorem cs_L_141 : CsV RL 141 yX6_insertBeat cX6_insertBeat 4 (some .int) 1 := csV_of mm_1082 mm_1083 mm_1084 mm_71 mm_1085 (by decide +kernel)
theorem cs_L_142 : CsW RL 142 yL_removeBeat cL_removeBeat 4 (some .int) [(0, 9, 12, 28), (0, 9, 15, 15)] 3 := csW_of mm_735 mm_736 mm_64 mm_737 (by decide +kernel)
theorem cs_L_144 : CsV RL 144 yX6_removeBeat cX6_removeBeat 2 (some .int) 1 := csV_of mm_1086 mm_1087 mm_1088 mm_71 mm_1089 (by decide +kernel)
theorem cs_L_145 : CsW RL 145 yL_undo cL_undo 3 (some .int) [(0, 8, 11, 15)] 2 := csW_of mm_746 mm_747 mm_64 mm_748 (by decide +kernel)
theorem cs_L_147 : CsV RL 147 yX6_undo cX6_undo 1 (some .int) 0 := csV_of mm_1093 mm_1094 mm_1095 mm_71 mm_1096 (by decide +kernel)
theorem cs_L_148 : CsW RL 148 yL_note cL_note 6 (some .int) [(0, 12, 15, 28), (0, 12, 19, 13)] 5 := csW_of mm_761 mm_762 mm_64 mm_763 (by decide +kernel)
theorem cs_L_150 : CsV RL 150 yX6_note cX6_note 6 (some .int) 3 := csV_of mm_1097 mm_1098 mm_1099 mm_71 mm_1100 (by decide +kernel)
theorem cs_L_151 : CsW RL 151 yL_hand cL_hand 6 (some .int) [(0, 12, 15, 28), (0, 12, 19, 13)] 5 := csW_of mm_776 mm_777 mm_64 mm_778 (by decide +kernel)
theorem cs_L_153 : CsV RL 153 yX6_hand cX6_hand 5 (some .int) 3 := csV_of mm_1197 mm_1198 mm_1199 mm_71 mm_1200 (by decide +kernel)
theorem cs_L_154 : CsW RL 154 yL_beat cL_beat 5 (some .int) [(0, 10, 13, 28), (0, 10, 17, 13)] 4 := csW_of mm_789 mm_790 mm_64 mm_791 (by decide +kernel)
theorem cs_L_156 : CsV RL 156 yX6_beat cX6_beat 5 (some .int) 2 := csV_of mm_1202 mm_1203 mm_1204 mm_71 mm_1205 (by decide +kernel)
theorem cs_L_157 : CsW RL 157 yL_whole cL_whole 4 (some .int) [(0, 9, 12, 13)] 3 := csW_of mm_800 mm_801 mm_64 mm_802 (by decide +kernel)
theorem cs_L_159 : CsV RL 159 yX6_whole cX6_whole 2 (some .int) 1 := csV_of mm_1206 mm_1207 mm_1208 mm_71 mm_1209 (by decide +kernel)
theorem cs_L_160 : CsW RL 160 yL_whatIf cL_whatIf 6 (some .int) [(0, 12, 15, 13)] 5 := csW_of mm_807 mm_808 mm_64 mm_809 (by decide +kernel)
theorem cs_L_162 : CsV RL 162 yX6_whatIf cX6_whatIf 4 (some .int) 3 := csV_of mm_1215 mm_1216 mm_1217 mm_71 mm_1218 (by decide +kernel)
theorem cs_L_163 : CsV RL 163 yX5_smallestSpan cX5_smallestSpan 3 (some .int) 0 := csV_of mm_319 mm_320 mm_321 mm_65 mm_322 (by decide +kernel)
theorem cs_L_166 : CsV RL 166 yX6_smallestSpan cX6_smallestSpan 2 (some .int) 0 := csV_of mm_1219 mm_1220 mm_1221 mm_71 mm_1222 (by decide +kernel)
theorem cs_L_167 : CsV RL 167 yX5_dearest cX5_dearest 5 (some .int) 0 := csV_of mm_470 mm_471 mm_472 mm_65 mm_473 (by decide +kernel)
theorem cs_L_170 : CsV RL 170 yX6_dearest cX6_dearest 6 (some .int) 0 := csV_of mm_1223 mm_1224 mm_1225 mm_71 mm_1226 (by decide +kernel)
theorem cs_L_171 : CsW RL 171 yL_bestTransposition cL_bestTransposition 4 (some .int) [(0, 9, 12, 28)] 3 := csW_of mm_814 mm_815 mm_64 mm_816 (by decide +kernel)
theorem cs_L_173 : CsV RL 173 yX6_bestTransposition cX6_bestTransposition 7 (some .int) 1 := csV_of mm_1227 mm_1228 mm_1229 mm_71 mm_1230 (by decide +kernel)
theorem kw_L_174 : Cond.constantLong RL 174 (4294967295) ∈ TW := tw_in mm_1261 rfl
theorem cs_L_176 : CsW RL 176 yL_runScript cL_runScript 6 (some .int) [(0, 11, 14, 13)] 4 := csW_of mm_821 mm_822 mm_64 mm_823 (by decide +kernel)
theorem cs_L_179 : CsV RL 179 yX6_runScript cX6_runScript 10 (some .int) 2 := csV_of mm_1231 mm_1232 mm_1233 mm_71 mm_1234 (by decide +kernel)
theorem cs_L_180 : CsW RL 180 yL_simulate cL_simulate 6 (some .int) [(0, 11, 14, 13)] 4 := csW_of mm_853 mm_854 mm_64 mm_855 (by decide +kernel)
theorem cs_L_183 : CsV RL 183 yX6_simulate cX6_simulate 9 (some .int) 2 := csV_of mm_1246 mm_1247 mm_1248 mm_71 mm_1249 (by decide +kernel)
theorem cs_L_184 : CsW RL 184 yL_save cL_save 4 (some .int) [(0, 9, 12, 28)] 3 := csW_of mm_866 mm_867 mm_64 mm_868 (by decide +kernel)
theorem cs_L_186 : CsV RL 186 yX6_save cX6_save 2 (some .int) 1 := csV_of mm_1253 mm_1254 mm_1255 mm_71 mm_1256 (by decide +kernel)
theorem cs_L_187 : CsW RL 187 yL_restore cL_restore 4 (some .int) [(0, 9, 12, 28), (0, 9, 15, 15)] 3 := csW_of mm_876 mm_877 mm_64 mm_878 (by decide +kernel)
theorem cs_L_189 : CsV RL 189 yX6_restore cX6_restore 2 (some .int) 1 := csV_of mm_1257 mm_1258 mm_1259 mm_71 mm_1260 (by decide +kernel)
set_option maxRecDepth 20000 in
theorem w_L_append {X : XX} {G : GG} {Z : ZZ} (hC : Cx X G RL cL_append (some .int) 7 1 6 4) (ht : (xc X).exceptionTable.toList = tableOf [(0, 9, 12, 13), (0, 9, 15, 15)]) (hz : ZOk G Z) (hZ : ZM Z) (v1 : Int32) (M : Mem) {r : Int32} {M' : Mem} (hf : f_L_append v1 M = some (r, M')) : V X G Z M 0 0 (QN X G (QcI G Z r M') 1 6) 0 [(0, .ref (Z.1 0)), (1, .int v1), (2, .ref (Z.1 43))] [] := by
  unfold f_L_append at hf
  refine r_aload_n hC dL_append_0 2 rfl ?_
  refine r_iconst (v := 0) hC dL_append_1 rfl ?_
  refine r_aload_n hC dL_append_2 0 rfl ?_
  refine r_iload_n hC dL_append_3 1 rfl ?_
  refine r_hcallVI [.int 0, .ref (Z.1 43)] (fun r M1 h => c_X5_append (cx_st hC) hz hZ v1 _ r M1 h) cs_L_7 hC (z_1 hZ 0 (by decide) rfl) (q0 := (RX5, TX5, 7)) rfl rfl [.int v1] rfl rfl rfl (by decide) (by decide) (Nat.le_of_ble_eq_true rfl) (by decide) (by decide) dL_append_4 (fun h0 => by rw [h0] at hf; cases hf) (fun e M1 he => ?_) (fun x M1 hx => ?_)
  · rw [he] at hf
    match e, he, hf with
    | 0, he, hf =>
      have hf : some ((1 : Int32), M1) = some (r, M') := hf
      refine r_catch (e := 0) hC ht [] ⟨0, 9, 12, 13⟩ [⟨0, 9, 15, 15⟩] rfl (by decide +kernel) (by decide) kw_cl_13 kw_cast_0 (by decide) (fun z hz => absurd hz List.not_mem_nil) (fun q => ?_)
      refine r_astore_n (L' := [(3, .ref q), (0, .ref (Z.1 0)), (1, .int v1), (2, .ref (Z.1 43))]) hC dL_append_12 (by decide) rfl ?_
      refine r_iconst (v := 1) hC dL_append_13 rfl ?_
      exact r_iret hf hC (by decide) (by decide) dL_append_14
    | 1, he, hf =>
      have hf : some ((2 : Int32), M1) = some (r, M') := hf
      refine r_catch (e := 1) hC ht [⟨0, 9, 12, 13⟩] ⟨0, 9, 15, 15⟩ [] rfl (by decide +kernel) (by decide) kw_cl_15 kw_cast_1 (by decide) (List.forall_mem_cons.mpr ⟨⟨by decide, 0, by decide, by decide, kw_cl_13⟩, fun z hz => absurd hz List.not_mem_nil⟩) (fun q => ?_)
      refine r_astore_n (L' := [(3, .ref q), (0, .ref (Z.1 0)), (1, .int v1), (2, .ref (Z.1 43))]) hC dL_append_15 (by decide) rfl ?_
      refine r_iconst (v := 2) hC dL_append_16 rfl ?_
      exact r_iret hf hC (by decide) (by decide) dL_append_17
    | 2, he, hf => have hf : (none : Option (Int32 × Mem)) = some (r, M') := hf; cases hf
    | n + 3, he, hf => have hf : (none : Option (Int32 × Mem)) = some (r, M') := hf; cases hf
  · rw [hx] at hf
    have hf : some ((0 : Int32), mw M1 43 0 x) = some (r, M') := hf
    refine r_i2l hC dL_append_7 ?_
    refine r_last hC hz (z_1 hZ 43 (by decide) rfl) (inb_vp (by decide)) dL_append_8 ?_
    refine r_goto 18 hC dL_append_9 (by decide) ?_
    refine r_iconst (v := 0) hC dL_append_18 rfl ?_
    exact r_iret hf hC (by decide) (by decide) dL_append_19
set_option maxRecDepth 20000 in
theorem c_L_append {l : Launch} (hl : l.stackTraces = false) {G : GG} {Z : ZZ} (hz : ZOk G Z) (hZ : ZM Z) (v1 : Int32) (M : Mem) (r : Int32) (M' : Mem) (hf : f_L_append v1 M = some (r, M')) : CW (QcI G Z r M') l G Z yL_append cL_append 4 (some .int) [(0, 9, 12, 13), (0, 9, 15, 15)] 7 1 6 [.ref (Z.1 0), .int v1, .ref (Z.1 43)] M :=
  CW.of [(0, .ref (Z.1 0)), (1, .int v1), (2, .ref (Z.1 43))] hl (by decide +kernel) (Nat.le_of_ble_eq_true rfl) rfl (fun _ hC ht => w_L_append hC ht hz hZ v1 M hf)
set_option maxRecDepth 20000 in
theorem w_L_load {X : XX} {G : GG} {Z : ZZ} (hC : Cx X G RL cL_load (some .int) 7 1 6 3) (ht : (xc X).exceptionTable.toList = tableOf [(0, 8, 11, 15)]) (hz : ZOk G Z) (hZ : ZM Z)  (M : Mem) {r : Int32} {M' : Mem} (hf : f_L_load  M = some (r, M')) : V X G Z M 0 0 (QN X G (QcI G Z r M') 1 6) 0 [(0, .ref (Z.1 0)), (1, .ref (Z.1 43))] [] := by
  unfold f_L_load at hf
  refine r_aload_n hC dL_load_0 1 rfl ?_
  refine r_iconst (v := 0) hC dL_load_1 rfl ?_
  refine r_aload_n hC dL_load_2 0 rfl ?_
  refine r_hcallVI [.int 0, .ref (Z.1 43)] (fun r M1 h => c_X5_load (cx_st hC) hz hZ  _ r M1 h) cs_L_17 hC (z_1 hZ 0 (by decide) rfl) (q0 := (RX5, TX5, 7)) rfl rfl [] rfl rfl rfl (by decide) (by decide) (Nat.le_of_ble_eq_true rfl) (by decide) (by decide) dL_load_3 (fun h0 => by rw [h0] at hf; cases hf) (fun e M1 he => ?_) (fun x M1 hx => ?_)
  · rw [he] at hf
    match e, he, hf with
    | 0, he, hf => have hf : (none : Option (Int32 × Mem)) = some (r, M') := hf; cases hf
    | 1, he, hf =>
      have hf : some ((1 : Int32), M1) = some (r, M') := hf
      refine r_catch (e := 1) hC ht [] ⟨0, 8, 11, 15⟩ [] rfl (by decide +kernel) (by decide) kw_cl_15 kw_cast_1 (by decide) (fun z hz => absurd hz List.not_mem_nil) (fun q => ?_)
      refine r_astore_n (L' := [(2, .ref q), (0, .ref (Z.1 0)), (1, .ref (Z.1 43))]) hC dL_load_11 (by decide) rfl ?_
      refine r_iconst (v := 1) hC dL_load_12 rfl ?_
      exact r_iret hf hC (by decide) (by decide) dL_load_13
    | 2, he, hf => have hf : (none : Option (Int32 × Mem)) = some (r, M') := hf; cases hf
    | n + 3, he, hf => have hf : (none : Option (Int32 × Mem)) = some (r, M') := hf; cases hf
  · rw [hx] at hf
    have hf : some ((0 : Int32), mw M1 43 0 x) = some (r, M') := hf
    refine r_i2l hC dL_load_6 ?_
    refine r_last hC hz (z_1 hZ 43 (by decide) rfl) (inb_vp (by decide)) dL_load_7 ?_
    refine r_goto 14 hC dL_load_8 (by decide) ?_
    refine r_iconst (v := 0) hC dL_load_14 rfl ?_
    exact r_iret hf hC (by decide) (by decide) dL_load_15
set_option maxRecDepth 20000 in
theorem c_L_load {l : Launch} (hl : l.stackTraces = false) {G : GG} {Z : ZZ} (hz : ZOk G Z) (hZ : ZM Z)  (M : Mem) (r : Int32) (M' : Mem) (hf : f_L_load  M = some (r, M')) : CW (QcI G Z r M') l G Z yL_load cL_load 3 (some .int) [(0, 8, 11, 15)] 7 1 6 [.ref (Z.1 0), .ref (Z.1 43)] M :=
  CW.of [(0, .ref (Z.1 0)), (1, .ref (Z.1 43))] hl (by decide +kernel) (Nat.le_of_ble_eq_true rfl) rfl (fun _ hC ht => w_L_load hC ht hz hZ  M hf)
set_option maxRecDepth 20000 in
theorem w_L_about {X : XX} {G : GG} {Z : ZZ} (hC : Cx X G RL cL_about (some .int) 7 1 6 4) (ht : (xc X).exceptionTable.toList = tableOf [(0, 9, 12, 13)]) (hz : ZOk G Z) (hZ : ZM Z) (v1 : Int32) (M : Mem) {r : Int32} {M' : Mem} (hf : f_L_about v1 M = some (r, M')) : V X G Z M 0 0 (QN X G (QcI G Z r M') 1 6) 0 [(0, .ref (Z.1 0)), (1, .int v1), (2, .ref (Z.1 43))] [] := by
  unfold f_L_about at hf
  refine r_aload_n hC dL_about_0 2 rfl ?_
  refine r_iconst (v := 0) hC dL_about_1 rfl ?_
  refine r_aload_n hC dL_about_2 0 rfl ?_
  refine r_iload_n hC dL_about_3 1 rfl ?_
  refine r_hcallVI [.int 0, .ref (Z.1 43)] (fun r M1 h => c_X5_about (cx_st hC) hz hZ v1 _ r M1 h) cs_L_21 hC (z_1 hZ 0 (by decide) rfl) (q0 := (RX5, TX5, 7)) rfl rfl [.int v1] rfl rfl rfl (by decide) (by decide) (Nat.le_of_ble_eq_true rfl) (by decide) (by decide) dL_about_4 (fun h0 => by rw [h0] at hf; cases hf) (fun e M1 he => ?_) (fun x M1 hx => ?_)
  · rw [he] at hf
    match e, he, hf with
    | 0, he, hf =>
      have hf : some ((1 : Int32), M1) = some (r, M') := hf
      refine r_catch (e := 0) hC ht [] ⟨0, 9, 12, 13⟩ [] rfl (by decide +kernel) (by decide) kw_cl_13 kw_cast_0 (by decide) (fun z hz => absurd hz List.not_mem_nil) (fun q => ?_)
      refine r_astore_n (L' := [(3, .ref q), (0, .ref (Z.1 0)), (1, .int v1), (2, .ref (Z.1 43))]) hC dL_about_12 (by decide) rfl ?_
      refine r_iconst (v := 1) hC dL_about_13 rfl ?_
      exact r_iret hf hC (by decide) (by decide) dL_about_14
    | 1, he, hf => have hf : (none : Option (Int32 × Mem)) = some (r, M') := hf; cases hf
    | 2, he, hf => have hf : (none : Option (Int32 × Mem)) = some (r, M') := hf; cases hf
    | n + 3, he, hf => have hf : (none : Option (Int32 × Mem)) = some (r, M') := hf; cases hf
  · rw [hx] at hf
    have hf : some ((0 : Int32), mw M1 43 0 x) = some (r, M') := hf
    refine r_i2l hC dL_about_7 ?_
    refine r_last hC hz (z_1 hZ 43 (by decide) rfl) (inb_vp (by decide)) dL_about_8 ?_
    refine r_goto 15 hC dL_about_9 (by decide) ?_
    refine r_iconst (v := 0) hC dL_about_15 rfl ?_
    exact r_iret hf hC (by decide) (by decide) dL_about_16
set_option maxRecDepth 20000 in
theorem c_L_about {l : Launch} (hl : l.stackTraces = false) {G : GG} {Z : ZZ} (hz : ZOk G Z) (hZ : ZM Z) (v1 : Int32) (M : Mem) (r : Int32) (M' : Mem) (hf : f_L_about v1 M = some (r, M')) : CW (QcI G Z r M') l G Z yL_about cL_about 4 (some .int) [(0, 9, 12, 13)] 7 1 6 [.ref (Z.1 0), .int v1, .ref (Z.1 43)] M :=
  CW.of [(0, .ref (Z.1 0)), (1, .int v1), (2, .ref (Z.1 43))] hl (by decide +kernel) (Nat.le_of_ble_eq_true rfl) rfl (fun _ hC ht => w_L_about hC ht hz hZ v1 M hf)
set_option maxRecDepth 20000 in
theorem w_L_cell {X : XX} {G : GG} {Z : ZZ} (hC : Cx X G RL cL_cell (some .int) 9 2 12 6) (ht : (xc X).exceptionTable.toList = tableOf [(0, 12, 15, 28)]) (hz : ZOk G Z) (hZ : ZM Z) (v1 : Int32) (v2 : Int32) (v3 : Int32) (M : Mem) {r : Int32} {M' : Mem} (hf : f_L_cell v1 v2 v3 M = some (r, M')) : V X G Z M 0 0 (QN X G (QcI G Z r M') 2 12) 0 [(0, .ref (Z.1 0)), (1, .int v1), (2, .int v2), (3, .int v3), (4, .ref (Z.1 43))] [] := by
  unfold f_L_cell at hf
  refine r_aload hC dL_cell_0 4 rfl ?_
  refine r_iconst (v := 0) hC dL_cell_2 rfl ?_
  refine r_aload_n hC dL_cell_3 0 rfl ?_
  refine r_iload_n hC dL_cell_4 1 rfl ?_
  refine r_iload_n hC dL_cell_5 2 rfl ?_
  refine r_iload_n hC dL_cell_6 3 rfl ?_
  refine r_hcallVI [.int 0, .ref (Z.1 43)] (fun r M1 h => c_X5_cell (cx_st hC) hz hZ v1 v2 v3 _ r M1 h) cs_L_24 hC (z_1 hZ 0 (by decide) rfl) (q0 := (RX5, TX5, 7)) rfl rfl [.int v1, .int v2, .int v3] rfl rfl rfl (by decide) (by decide) (Nat.le_of_ble_eq_true rfl) (by decide) (by decide) dL_cell_7 (fun h0 => by rw [h0] at hf; cases hf) (fun e M1 he => ?_) (fun x M1 hx => ?_)
  · rw [he] at hf
    match e, he, hf with
    | 0, he, hf => have hf : (none : Option (Int32 × Mem)) = some (r, M') := hf; cases hf
    | 1, he, hf => have hf : (none : Option (Int32 × Mem)) = some (r, M') := hf; cases hf
    | 2, he, hf =>
      have hf : some ((1 : Int32), M1) = some (r, M') := hf
      refine r_catch (e := 2) hC ht [] ⟨0, 12, 15, 28⟩ [] rfl (by decide +kernel) (by decide) kw_cl_28 kw_cast_2 (by decide) (fun z hz => absurd hz List.not_mem_nil) (fun q => ?_)
      refine r_astore (L' := [(5, .ref q), (0, .ref (Z.1 0)), (1, .int v1), (2, .int v2), (3, .int v3), (4, .ref (Z.1 43))]) hC dL_cell_15 (by decide) rfl ?_
      refine r_iconst (v := 1) hC dL_cell_17 rfl ?_
      exact r_iret hf hC (by decide) (by decide) dL_cell_18
    | n + 3, he, hf => have hf : (none : Option (Int32 × Mem)) = some (r, M') := hf; cases hf
  · rw [hx] at hf
    have hf : some ((0 : Int32), mw M1 43 0 x) = some (r, M') := hf
    refine r_i2l hC dL_cell_10 ?_
    refine r_last hC hz (z_1 hZ 43 (by decide) rfl) (inb_vp (by decide)) dL_cell_11 ?_
    refine r_goto 19 hC dL_cell_12 (by decide) ?_
    refine r_iconst (v := 0) hC dL_cell_19 rfl ?_
    exact r_iret hf hC (by decide) (by decide) dL_cell_20
set_option maxRecDepth 20000 in
theorem c_L_cell {l : Launch} (hl : l.stackTraces = false) {G : GG} {Z : ZZ} (hz : ZOk G Z) (hZ : ZM Z) (v1 : Int32) (v2 : Int32) (v3 : Int32) (M : Mem) (r : Int32) (M' : Mem) (hf : f_L_cell v1 v2 v3 M = some (r, M')) : CW (QcI G Z r M') l G Z yL_cell cL_cell 6 (some .int) [(0, 12, 15, 28)] 9 2 12 [.ref (Z.1 0), .int v1, .int v2, .int v3, .ref (Z.1 43)] M :=
  CW.of [(0, .ref (Z.1 0)), (1, .int v1), (2, .int v2), (3, .int v3), (4, .ref (Z.1 43))] hl (by decide +kernel) (Nat.le_of_ble_eq_true rfl) rfl (fun _ hC ht => w_L_cell hC ht hz hZ v1 v2 v3 M hf)
set_option maxRecDepth 20000 in
theorem w_L_set {X : XX} {G : GG} {Z : ZZ} (hC : Cx X G RL cL_set (some .int) 7 1 6 5) (ht : (xc X).exceptionTable.toList = tableOf [(0, 10, 13, 13)]) (hz : ZOk G Z) (hZ : ZM Z) (v1 : Int32) (v2 : Int32) (M : Mem) {r : Int32} {M' : Mem} (hf : f_L_set v1 v2 M = some (r, M')) : V X G Z M 0 0 (QN X G (QcI G Z r M') 1 6) 0 [(0, .ref (Z.1 0)), (1, .int v1), (2, .int v2), (3, .ref (Z.1 43))] [] := by
  unfold f_L_set at hf
  refine r_aload_n hC dL_set_0 3 rfl ?_
  refine r_iconst (v := 0) hC dL_set_1 rfl ?_
  refine r_aload_n hC dL_set_2 0 rfl ?_
  refine r_iload_n hC dL_set_3 1 rfl ?_
  refine r_iload_n hC dL_set_4 2 rfl ?_
  refine r_hcallVI [.int 0, .ref (Z.1 43)] (fun r M1 h => c_X5_set (cx_st hC) hz hZ v1 v2 _ r M1 h) cs_L_30 hC (z_1 hZ 0 (by decide) rfl) (q0 := (RX5, TX5, 7)) rfl rfl [.int v1, .int v2] rfl rfl rfl (by decide) (by decide) (Nat.le_of_ble_eq_true rfl) (by decide) (by decide) dL_set_5 (fun h0 => by rw [h0] at hf; cases hf) (fun e M1 he => ?_) (fun x M1 hx => ?_)
  · rw [he] at hf
    match e, he, hf with
    | 0, he, hf =>
      have hf : some ((1 : Int32), M1) = some (r, M') := hf
      refine r_catch (e := 0) hC ht [] ⟨0, 10, 13, 13⟩ [] rfl (by decide +kernel) (by decide) kw_cl_13 kw_cast_0 (by decide) (fun z hz => absurd hz List.not_mem_nil) (fun q => ?_)
      refine r_astore (L' := [(4, .ref q), (0, .ref (Z.1 0)), (1, .int v1), (2, .int v2), (3, .ref (Z.1 43))]) hC dL_set_13 (by decide) rfl ?_
      refine r_iconst (v := 1) hC dL_set_15 rfl ?_
      exact r_iret hf hC (by decide) (by decide) dL_set_16
    | 1, he, hf => have hf : (none : Option (Int32 × Mem)) = some (r, M') := hf; cases hf
    | 2, he, hf => have hf : (none : Option (Int32 × Mem)) = some (r, M') := hf; cases hf
    | n + 3, he, hf => have hf : (none : Option (Int32 × Mem)) = some (r, M') := hf; cases hf
  · rw [hx] at hf
    have hf : some ((0 : Int32), mw M1 43 0 x) = some (r, M') := hf
    refine r_i2l hC dL_set_8 ?_
    refine r_last hC hz (z_1 hZ 43 (by decide) rfl) (inb_vp (by decide)) dL_set_9 ?_
    refine r_goto 17 hC dL_set_10 (by decide) ?_
    refine r_iconst (v := 0) hC dL_set_17 rfl ?_
    exact r_iret hf hC (by decide) (by decide) dL_set_18
set_option maxRecDepth 20000 in
theorem c_L_set {l : Launch} (hl : l.stackTraces = false) {G : GG} {Z : ZZ} (hz : ZOk G Z) (hZ : ZM Z) (v1 : Int32) (v2 : Int32) (M : Mem) (r : Int32) (M' : Mem) (hf : f_L_set v1 v2 M = some (r, M')) : CW (QcI G Z r M') l G Z yL_set cL_set 5 (some .int) [(0, 10, 13, 13)] 7 1 6 [.ref (Z.1 0), .int v1, .int v2, .ref (Z.1 43)] M :=
  CW.of [(0, .ref (Z.1 0)), (1, .int v1), (2, .int v2), (3, .ref (Z.1 43))] hl (by decide +kernel) (Nat.le_of_ble_eq_true rfl) rfl (fun _ hC ht => w_L_set hC ht hz hZ v1 v2 M hf)
set_option maxRecDepth 20000 in
theorem w_L_write {X : XX} {G : GG} {Z : ZZ} (hC : Cx X G RL cL_write (some .int) 9 3 18 6) (ht : (xc X).exceptionTable.toList = tableOf [(0, 12, 15, 28), (0, 12, 19, 13), (0, 12, 23, 15)]) (hz : ZOk G Z) (hZ : ZM Z) (v1 : Int32) (v2 : Int32) (v3 : Int32) (M : Mem) {r : Int32} {M' : Mem} (hf : f_L_write v1 v2 v3 M = some (r, M')) : V X G Z M 0 0 (QN X G (QcI G Z r M') 3 18) 0 [(0, .ref (Z.1 0)), (1, .int v1), (2, .int v2), (3, .int v3), (4, .ref (Z.1 43))] [] := by
  unfold f_L_write at hf
  refine r_aload hC dL_write_0 4 rfl ?_
  refine r_iconst (v := 0) hC dL_write_2 rfl ?_
  refine r_aload_n hC dL_write_3 0 rfl ?_
  refine r_iload_n hC dL_write_4 1 rfl ?_
  refine r_iload_n hC dL_write_5 2 rfl ?_
  refine r_iload_n hC dL_write_6 3 rfl ?_
  refine r_hcallVI [.int 0, .ref (Z.1 43)] (fun r M1 h => c_X5_write (cx_st hC) hz hZ v1 v2 v3 _ r M1 h) cs_L_34 hC (z_1 hZ 0 (by decide) rfl) (q0 := (RX5, TX5, 7)) rfl rfl [.int v1, .int v2, .int v3] rfl rfl rfl (by decide) (by decide) (Nat.le_of_ble_eq_true rfl) (by decide) (by decide) dL_write_7 (fun h0 => by rw [h0] at hf; cases hf) (fun e M1 he => ?_) (fun x M1 hx => ?_)
  · rw [he] at hf
    match e, he, hf with
    | 0, he, hf =>
      have hf : some ((2 : Int32), M1) = some (r, M') := hf
      refine r_catch (e := 0) hC ht [⟨0, 12, 15, 28⟩] ⟨0, 12, 19, 13⟩ [⟨0, 12, 23, 15⟩] rfl (by decide +kernel) (by decide) kw_cl_13 kw_cast_0 (by decide) (List.forall_mem_cons.mpr ⟨⟨by decide, 2, by decide, by decide, kw_cl_28⟩, fun z hz => absurd hz List.not_mem_nil⟩) (fun q => ?_)
      refine r_astore (L' := [(5, .ref q), (0, .ref (Z.1 0)), (1, .int v1), (2, .int v2), (3, .int v3), (4, .ref (Z.1 43))]) hC dL_write_19 (by decide) rfl ?_
      refine r_iconst (v := 2) hC dL_write_21 rfl ?_
      exact r_iret hf hC (by decide) (by decide) dL_write_22
    | 1, he, hf =>
      have hf : some ((3 : Int32), M1) = some (r, M') := hf
      refine r_catch (e := 1) hC ht [⟨0, 12, 15, 28⟩, ⟨0, 12, 19, 13⟩] ⟨0, 12, 23, 15⟩ [] rfl (by decide +kernel) (by decide) kw_cl_15 kw_cast_1 (by decide) (List.forall_mem_cons.mpr ⟨⟨by decide, 2, by decide, by decide, kw_cl_28⟩, List.forall_mem_cons.mpr ⟨⟨by decide, 0, by decide, by decide, kw_cl_13⟩, fun z hz => absurd hz List.not_mem_nil⟩⟩) (fun q => ?_)
      refine r_astore (L' := [(5, .ref q), (0, .ref (Z.1 0)), (1, .int v1), (2, .int v2), (3, .int v3), (4, .ref (Z.1 43))]) hC dL_write_23 (by decide) rfl ?_
      refine r_iconst (v := 3) hC dL_write_25 rfl ?_
      exact r_iret hf hC (by decide) (by decide) dL_write_26
    | 2, he, hf =>
      have hf : some ((1 : Int32), M1) = some (r, M') := hf
      refine r_catch (e := 2) hC ht [] ⟨0, 12, 15, 28⟩ [⟨0, 12, 19, 13⟩, ⟨0, 12, 23, 15⟩] rfl (by decide +kernel) (by decide) kw_cl_28 kw_cast_2 (by decide) (fun z hz => absurd hz List.not_mem_nil) (fun q => ?_)
      refine r_astore (L' := [(5, .ref q), (0, .ref (Z.1 0)), (1, .int v1), (2, .int v2), (3, .int v3), (4, .ref (Z.1 43))]) hC dL_write_15 (by decide) rfl ?_
      refine r_iconst (v := 1) hC dL_write_17 rfl ?_
      exact r_iret hf hC (by decide) (by decide) dL_write_18
    | n + 3, he, hf => have hf : (none : Option (Int32 × Mem)) = some (r, M') := hf; cases hf
  · rw [hx] at hf
    have hf : some ((0 : Int32), mw M1 43 0 x) = some (r, M') := hf
    refine r_i2l hC dL_write_10 ?_
    refine r_last hC hz (z_1 hZ 43 (by decide) rfl) (inb_vp (by decide)) dL_write_11 ?_
    refine r_goto 27 hC dL_write_12 (by decide) ?_
    refine r_iconst (v := 0) hC dL_write_27 rfl ?_
    exact r_iret hf hC (by decide) (by decide) dL_write_28
set_option maxRecDepth 20000 in
theorem c_L_write {l : Launch} (hl : l.stackTraces = false) {G : GG} {Z : ZZ} (hz : ZOk G Z) (hZ : ZM Z) (v1 : Int32) (v2 : Int32) (v3 : Int32) (M : Mem) (r : Int32) (M' : Mem) (hf : f_L_write v1 v2 v3 M = some (r, M')) : CW (QcI G Z r M') l G Z yL_write cL_write 6 (some .int) [(0, 12, 15, 28), (0, 12, 19, 13), (0, 12, 23, 15)] 9 3 18 [.ref (Z.1 0), .int v1, .int v2, .int v3, .ref (Z.1 43)] M :=
  CW.of [(0, .ref (Z.1 0)), (1, .int v1), (2, .int v2), (3, .int v3), (4, .ref (Z.1 43))] hl (by decide +kernel) (Nat.le_of_ble_eq_true rfl) rfl (fun _ hC ht => w_L_write hC ht hz hZ v1 v2 v3 M hf)
set_option maxRecDepth 20000 in
theorem w_L_transpose {X : XX} {G : GG} {Z : ZZ} (hC : Cx X G RL cL_transpose (some .int) 8 2 12 5) (ht : (xc X).exceptionTable.toList = tableOf [(0, 10, 13, 28), (0, 10, 17, 13), (0, 10, 21, 15)]) (hz : ZOk G Z) (hZ : ZM Z) (v1 : Int32) (v2 : Int32) (M : Mem) {r : Int32} {M' : Mem} (hf : f_L_transpose v1 v2 M = some (r, M')) : V X G Z M 0 0 (QN X G (QcI G Z r M') 2 12) 0 [(0, .ref (Z.1 0)), (1, .int v1), (2, .int v2), (3, .ref (Z.1 43))] [] := by
  unfold f_L_transpose at hf
  refine r_aload_n hC dL_transpose_0 3 rfl ?_
  refine r_iconst (v := 0) hC dL_transpose_1 rfl ?_
  refine r_aload_n hC dL_transpose_2 0 rfl ?_
  refine r_iload_n hC dL_transpose_3 1 rfl ?_
  refine r_iload_n hC dL_transpose_4 2 rfl ?_
  refine r_hcallVI [.int 0, .ref (Z.1 43)] (fun r M1 h => c_X5_transpose (cx_st hC) hz hZ v1 v2 _ r M1 h) cs_L_38 hC (z_1 hZ 0 (by decide) rfl) (q0 := (RX5, TX5, 7)) rfl rfl [.int v1, .int v2] rfl rfl rfl (by decide) (by decide) (Nat.le_of_ble_eq_true rfl) (by decide) (by decide) dL_transpose_5 (fun h0 => by rw [h0] at hf; cases hf) (fun e M1 he => ?_) (fun x M1 hx => ?_)
  · rw [he] at hf
    match e, he, hf with
    | 0, he, hf =>
      have hf : some ((2 : Int32), M1) = some (r, M') := hf
      refine r_catch (e := 0) hC ht [⟨0, 10, 13, 28⟩] ⟨0, 10, 17, 13⟩ [⟨0, 10, 21, 15⟩] rfl (by decide +kernel) (by decide) kw_cl_13 kw_cast_0 (by decide) (List.forall_mem_cons.mpr ⟨⟨by decide, 2, by decide, by decide, kw_cl_28⟩, fun z hz => absurd hz List.not_mem_nil⟩) (fun q => ?_)
      refine r_astore (L' := [(4, .ref q), (0, .ref (Z.1 0)), (1, .int v1), (2, .int v2), (3, .ref (Z.1 43))]) hC dL_transpose_17 (by decide) rfl ?_
      refine r_iconst (v := 2) hC dL_transpose_19 rfl ?_
      exact r_iret hf hC (by decide) (by decide) dL_transpose_20
    | 1, he, hf =>
      have hf : some ((3 : Int32), M1) = some (r, M') := hf
      refine r_catch (e := 1) hC ht [⟨0, 10, 13, 28⟩, ⟨0, 10, 17, 13⟩] ⟨0, 10, 21, 15⟩ [] rfl (by decide +kernel) (by decide) kw_cl_15 kw_cast_1 (by decide) (List.forall_mem_cons.mpr ⟨⟨by decide, 2, by decide, by decide, kw_cl_28⟩, List.forall_mem_cons.mpr ⟨⟨by decide, 0, by decide, by decide, kw_cl_13⟩, fun z hz => absurd hz List.not_mem_nil⟩⟩) (fun q => ?_)
      refine r_astore (L' := [(4, .ref q), (0, .ref (Z.1 0)), (1, .int v1), (2, .int v2), (3, .ref (Z.1 43))]) hC dL_transpose_21 (by decide) rfl ?_
      refine r_iconst (v := 3) hC dL_transpose_23 rfl ?_
      exact r_iret hf hC (by decide) (by decide) dL_transpose_24
    | 2, he, hf =>
      have hf : some ((1 : Int32), M1) = some (r, M') := hf
      refine r_catch (e := 2) hC ht [] ⟨0, 10, 13, 28⟩ [⟨0, 10, 17, 13⟩, ⟨0, 10, 21, 15⟩] rfl (by decide +kernel) (by decide) kw_cl_28 kw_cast_2 (by decide) (fun z hz => absurd hz List.not_mem_nil) (fun q => ?_)
      refine r_astore (L' := [(4, .ref q), (0, .ref (Z.1 0)), (1, .int v1), (2, .int v2), (3, .ref (Z.1 43))]) hC dL_transpose_13 (by decide) rfl ?_
      refine r_iconst (v := 1) hC dL_transpose_15 rfl ?_
      exact r_iret hf hC (by decide) (by decide) dL_transpose_16
    | n + 3, he, hf => have hf : (none : Option (Int32 × Mem)) = some (r, M') := hf; cases hf
  · rw [hx] at hf
    have hf : some ((0 : Int32), mw M1 43 0 x) = some (r, M') := hf
    refine r_i2l hC dL_transpose_8 ?_
    refine r_last hC hz (z_1 hZ 43 (by decide) rfl) (inb_vp (by decide)) dL_transpose_9 ?_
    refine r_goto 25 hC dL_transpose_10 (by decide) ?_
    refine r_iconst (v := 0) hC dL_transpose_25 rfl ?_
    exact r_iret hf hC (by decide) (by decide) dL_transpose_26
set_option maxRecDepth 20000 in
theorem c_L_transpose {l : Launch} (hl : l.stackTraces = false) {G : GG} {Z : ZZ} (hz : ZOk G Z) (hZ : ZM Z) (v1 : Int32) (v2 : Int32) (M : Mem) (r : Int32) (M' : Mem) (hf : f_L_transpose v1 v2 M = some (r, M')) : CW (QcI G Z r M') l G Z yL_transpose cL_transpose 5 (some .int) [(0, 10, 13, 28), (0, 10, 17, 13), (0, 10, 21, 15)] 8 2 12 [.ref (Z.1 0), .int v1, .int v2, .ref (Z.1 43)] M :=
  CW.of [(0, .ref (Z.1 0)), (1, .int v1), (2, .int v2), (3, .ref (Z.1 43))] hl (by decide +kernel) (Nat.le_of_ble_eq_true rfl) rfl (fun _ hC ht => w_L_transpose hC ht hz hZ v1 v2 M hf)
set_option maxRecDepth 20000 in
theorem w_L_exchange {X : XX} {G : GG} {Z : ZZ} (hC : Cx X G RL cL_exchange (some .int) 8 2 12 5) (ht : (xc X).exceptionTable.toList = tableOf [(0, 10, 13, 28)]) (hz : ZOk G Z) (hZ : ZM Z) (v1 : Int32) (v2 : Int32) (M : Mem) {r : Int32} {M' : Mem} (hf : f_L_exchange v1 v2 M = some (r, M')) : V X G Z M 0 0 (QN X G (QcI G Z r M') 2 12) 0 [(0, .ref (Z.1 0)), (1, .int v1), (2, .int v2), (3, .ref (Z.1 43))] [] := by
  unfold f_L_exchange at hf
  refine r_aload_n hC dL_exchange_0 3 rfl ?_
  refine r_iconst (v := 0) hC dL_exchange_1 rfl ?_
  refine r_aload_n hC dL_exchange_2 0 rfl ?_
  refine r_iload_n hC dL_exchange_3 1 rfl ?_
  refine r_iload_n hC dL_exchange_4 2 rfl ?_
  refine r_hcallVI [.int 0, .ref (Z.1 43)] (fun r M1 h => c_X5_exchange (cx_st hC) hz hZ v1 v2 _ r M1 h) cs_L_41 hC (z_1 hZ 0 (by decide) rfl) (q0 := (RX5, TX5, 7)) rfl rfl [.int v1, .int v2] rfl rfl rfl (by decide) (by decide) (Nat.le_of_ble_eq_true rfl) (by decide) (by decide) dL_exchange_5 (fun h0 => by rw [h0] at hf; cases hf) (fun e M1 he => ?_) (fun x M1 hx => ?_)
  · rw [he] at hf
    match e, he, hf with
    | 0, he, hf => have hf : (none : Option (Int32 × Mem)) = some (r, M') := hf; cases hf
    | 1, he, hf => have hf : (none : Option (Int32 × Mem)) = some (r, M') := hf; cases hf
    | 2, he, hf =>
      have hf : some ((1 : Int32), M1) = some (r, M') := hf
      refine r_catch (e := 2) hC ht [] ⟨0, 10, 13, 28⟩ [] rfl (by decide +kernel) (by decide) kw_cl_28 kw_cast_2 (by decide) (fun z hz => absurd hz List.not_mem_nil) (fun q => ?_)
      refine r_astore (L' := [(4, .ref q), (0, .ref (Z.1 0)), (1, .int v1), (2, .int v2), (3, .ref (Z.1 43))]) hC dL_exchange_13 (by decide) rfl ?_
      refine r_iconst (v := 1) hC dL_exchange_15 rfl ?_
      exact r_iret hf hC (by decide) (by decide) dL_exchange_16
    | n + 3, he, hf => have hf : (none : Option (Int32 × Mem)) = some (r, M') := hf; cases hf
  · rw [hx] at hf
    have hf : some ((0 : Int32), mw M1 43 0 x) = some (r, M') := hf
    refine r_i2l hC dL_exchange_8 ?_
    refine r_last hC hz (z_1 hZ 43 (by decide) rfl) (inb_vp (by decide)) dL_exchange_9 ?_
    refine r_goto 17 hC dL_exchange_10 (by decide) ?_
    refine r_iconst (v := 0) hC dL_exchange_17 rfl ?_
    exact r_iret hf hC (by decide) (by decide) dL_exchange_18
set_option maxRecDepth 20000 in
theorem c_L_exchange {l : Launch} (hl : l.stackTraces = false) {G : GG} {Z : ZZ} (hz : ZOk G Z) (hZ : ZM Z) (v1 : Int32) (v2 : Int32) (M : Mem) (r : Int32) (M' : Mem) (hf : f_L_exchange v1 v2 M = some (r, M')) : CW (QcI G Z r M') l G Z yL_exchange cL_exchange 5 (some .int) [(0, 10, 13, 28)] 8 2 12 [.ref (Z.1 0), .int v1, .int v2, .ref (Z.1 43)] M :=
  CW.of [(0, .ref (Z.1 0)), (1, .int v1), (2, .int v2), (3, .ref (Z.1 43))] hl (by decide +kernel) (Nat.le_of_ble_eq_true rfl) rfl (fun _ hC ht => w_L_exchange hC ht hz hZ v1 v2 M hf)
set_option maxRecDepth 20000 in
theorem w_L_staff {X : XX} {G : GG} {Z : ZZ} (hC : Cx X G RL cL_staff (some .int) 7 1 6 4) (ht : (xc X).exceptionTable.toList = tableOf [(0, 9, 12, 15)]) (hz : ZOk G Z) (hZ : ZM Z) (v1 : Int32) (M : Mem) {r : Int32} {M' : Mem} (hf : f_L_staff v1 M = some (r, M')) : V X G Z M 0 0 (QN X G (QcI G Z r M') 1 6) 0 [(0, .ref (Z.1 0)), (1, .int v1), (2, .ref (Z.1 43))] [] := by
  unfold f_L_staff at hf
  refine r_aload_n hC dL_staff_0 2 rfl ?_
  refine r_iconst (v := 0) hC dL_staff_1 rfl ?_
  refine r_aload_n hC dL_staff_2 0 rfl ?_
  refine r_iload_n hC dL_staff_3 1 rfl ?_
  refine r_hcallVI [.int 0, .ref (Z.1 43)] (fun r M1 h => c_X5_staff (cx_st hC) hz hZ v1 _ r M1 h) cs_L_44 hC (z_1 hZ 0 (by decide) rfl) (q0 := (RX5, TX5, 7)) rfl rfl [.int v1] rfl rfl rfl (by decide) (by decide) (Nat.le_of_ble_eq_true rfl) (by decide) (by decide) dL_staff_4 (fun h0 => by rw [h0] at hf; cases hf) (fun e M1 he => ?_) (fun x M1 hx => ?_)
  · rw [he] at hf
    match e, he, hf with
    | 0, he, hf => have hf : (none : Option (Int32 × Mem)) = some (r, M') := hf; cases hf
    | 1, he, hf =>
      have hf : some ((1 : Int32), M1) = some (r, M') := hf
      refine r_catch (e := 1) hC ht [] ⟨0, 9, 12, 15⟩ [] rfl (by decide +kernel) (by decide) kw_cl_15 kw_cast_1 (by decide) (fun z hz => absurd hz List.not_mem_nil) (fun q => ?_)
      refine r_astore_n (L' := [(3, .ref q), (0, .ref (Z.1 0)), (1, .int v1), (2, .ref (Z.1 43))]) hC dL_staff_12 (by decide) rfl ?_
      refine r_iconst (v := 1) hC dL_staff_13 rfl ?_
      exact r_iret hf hC (by decide) (by decide) dL_staff_14
    | 2, he, hf => have hf : (none : Option (Int32 × Mem)) = some (r, M') := hf; cases hf
    | n + 3, he, hf => have hf : (none : Option (Int32 × Mem)) = some (r, M') := hf; cases hf
  · rw [hx] at hf
    have hf : some ((0 : Int32), mw M1 43 0 x) = some (r, M') := hf
    refine r_i2l hC dL_staff_7 ?_
    refine r_last hC hz (z_1 hZ 43 (by decide) rfl) (inb_vp (by decide)) dL_staff_8 ?_
    refine r_goto 15 hC dL_staff_9 (by decide) ?_
    refine r_iconst (v := 0) hC dL_staff_15 rfl ?_
    exact r_iret hf hC (by decide) (by decide) dL_staff_16
set_option maxRecDepth 20000 in
theorem c_L_staff {l : Launch} (hl : l.stackTraces = false) {G : GG} {Z : ZZ} (hz : ZOk G Z) (hZ : ZM Z) (v1 : Int32) (M : Mem) (r : Int32) (M' : Mem) (hf : f_L_staff v1 M = some (r, M')) : CW (QcI G Z r M') l G Z yL_staff cL_staff 4 (some .int) [(0, 9, 12, 15)] 7 1 6 [.ref (Z.1 0), .int v1, .ref (Z.1 43)] M :=
  CW.of [(0, .ref (Z.1 0)), (1, .int v1), (2, .ref (Z.1 43))] hl (by decide +kernel) (Nat.le_of_ble_eq_true rfl) rfl (fun _ hC ht => w_L_staff hC ht hz hZ v1 M hf)
set_option maxRecDepth 20000 in
theorem w_L_insertBeat {X : XX} {G : GG} {Z : ZZ} (hC : Cx X G RL cL_insertBeat (some .int) 7 1 6 4) (ht : (xc X).exceptionTable.toList = tableOf [(0, 9, 12, 28), (0, 9, 15, 15)]) (hz : ZOk G Z) (hZ : ZM Z) (v1 : Int32) (M : Mem) {r : Int32} {M' : Mem} (hf : f_L_insertBeat v1 M = some (r, M')) : V X G Z M 0 0 (QN X G (QcI G Z r M') 1 6) 0 [(0, .ref (Z.1 0)), (1, .int v1), (2, .ref (Z.1 43))] [] := by
  unfold f_L_insertBeat at hf
  refine r_aload_n hC dL_insertBeat_0 2 rfl ?_
  refine r_iconst (v := 0) hC dL_insertBeat_1 rfl ?_
  refine r_aload_n hC dL_insertBeat_2 0 rfl ?_
  refine r_iload_n hC dL_insertBeat_3 1 rfl ?_
  refine r_hcallVI [.int 0, .ref (Z.1 43)] (fun r M1 h => c_X5_insertBeat (cx_st hC) hz hZ v1 _ r M1 h) cs_L_48 hC (z_1 hZ 0 (by decide) rfl) (q0 := (RX5, TX5, 7)) rfl rfl [.int v1] rfl rfl rfl (by decide) (by decide) (Nat.le_of_ble_eq_true rfl) (by decide) (by decide) dL_insertBeat_4 (fun h0 => by rw [h0] at hf; cases hf) (fun e M1 he => ?_) (fun x M1 hx => ?_)
  · rw [he] at hf
    match e, he, hf with
    | 0, he, hf => have hf : (none : Option (Int32 × Mem)) = some (r, M') := hf; cases hf
    | 1, he, hf =>
      have hf : some ((2 : Int32), M1) = some (r, M') := hf
      refine r_catch (e := 1) hC ht [⟨0, 9, 12, 28⟩] ⟨0, 9, 15, 15⟩ [] rfl (by decide +kernel) (by decide) kw_cl_15 kw_cast_1 (by decide) (List.forall_mem_cons.mpr ⟨⟨by decide, 2, by decide, by decide, kw_cl_28⟩, fun z hz => absurd hz List.not_mem_nil⟩) (fun q => ?_)
      refine r_astore_n (L' := [(3, .ref q), (0, .ref (Z.1 0)), (1, .int v1), (2, .ref (Z.1 43))]) hC dL_insertBeat_15 (by decide) rfl ?_
      refine r_iconst (v := 2) hC dL_insertBeat_16 rfl ?_
      exact r_iret hf hC (by decide) (by decide) dL_insertBeat_17
    | 2, he, hf =>
      have hf : some ((1 : Int32), M1) = some (r, M') := hf
      refine r_catch (e := 2) hC ht [] ⟨0, 9, 12, 28⟩ [⟨0, 9, 15, 15⟩] rfl (by decide +kernel) (by decide) kw_cl_28 kw_cast_2 (by decide) (fun z hz => absurd hz List.not_mem_nil) (fun q => ?_)
      refine r_astore_n (L' := [(3, .ref q), (0, .ref (Z.1 0)), (1, .int v1), (2, .ref (Z.1 43))]) hC dL_insertBeat_12 (by decide) rfl ?_
      refine r_iconst (v := 1) hC dL_insertBeat_13 rfl ?_
      exact r_iret hf hC (by decide) (by decide) dL_insertBeat_14
    | n + 3, he, hf => have hf : (none : Option (Int32 × Mem)) = some (r, M') := hf; cases hf
  · rw [hx] at hf
    have hf : some ((0 : Int32), mw M1 43 0 x) = some (r, M') := hf
    refine r_i2l hC dL_insertBeat_7 ?_
    refine r_last hC hz (z_1 hZ 43 (by decide) rfl) (inb_vp (by decide)) dL_insertBeat_8 ?_
    refine r_goto 18 hC dL_insertBeat_9 (by decide) ?_
    refine r_iconst (v := 0) hC dL_insertBeat_18 rfl ?_
    exact r_iret hf hC (by decide) (by decide) dL_insertBeat_19
set_option maxRecDepth 20000 in
theorem c_L_insertBeat {l : Launch} (hl : l.stackTraces = false) {G : GG} {Z : ZZ} (hz : ZOk G Z) (hZ : ZM Z) (v1 : Int32) (M : Mem) (r : Int32) (M' : Mem) (hf : f_L_insertBeat v1 M = some (r, M')) : CW (QcI G Z r M') l G Z yL_insertBeat cL_insertBeat 4 (some .int) [(0, 9, 12, 28), (0, 9, 15, 15)] 7 1 6 [.ref (Z.1 0), .int v1, .ref (Z.1 43)] M :=
  CW.of [(0, .ref (Z.1 0)), (1, .int v1), (2, .ref (Z.1 43))] hl (by decide +kernel) (Nat.le_of_ble_eq_true rfl) rfl (fun _ hC ht => w_L_insertBeat hC ht hz hZ v1 M hf)
set_option maxRecDepth 20000 in
theorem w_L_removeBeat {X : XX} {G : GG} {Z : ZZ} (hC : Cx X G RL cL_removeBeat (some .int) 8 2 12 4) (ht : (xc X).exceptionTable.toList = tableOf [(0, 9, 12, 28), (0, 9, 15, 15)]) (hz : ZOk G Z) (hZ : ZM Z) (v1 : Int32) (M : Mem) {r : Int32} {M' : Mem} (hf : f_L_removeBeat v1 M = some (r, M')) : V X G Z M 0 0 (QN X G (QcI G Z r M') 2 12) 0 [(0, .ref (Z.1 0)), (1, .int v1), (2, .ref (Z.1 43))] [] := by
  unfold f_L_removeBeat at hf
  refine r_aload_n hC dL_removeBeat_0 2 rfl ?_
  refine r_iconst (v := 0) hC dL_removeBeat_1 rfl ?_
  refine r_aload_n hC dL_removeBeat_2 0 rfl ?_
  refine r_iload_n hC dL_removeBeat_3 1 rfl ?_
  refine r_hcallVI [.int 0, .ref (Z.1 43)] (fun r M1 h => c_X5_removeBeat (cx_st hC) hz hZ v1 _ r M1 h) cs_L_51 hC (z_1 hZ 0 (by decide) rfl) (q0 := (RX5, TX5, 7)) rfl rfl [.int v1] rfl rfl rfl (by decide) (by decide) (Nat.le_of_ble_eq_true rfl) (by decide) (by decide) dL_removeBeat_4 (fun h0 => by rw [h0] at hf; cases hf) (fun e M1 he => ?_) (fun x M1 hx => ?_)
  · rw [he] at hf
    match e, he, hf with
    | 0, he, hf => have hf : (none : Option (Int32 × Mem)) = some (r, M') := hf; cases hf
    | 1, he, hf =>
      have hf : some ((2 : Int32), M1) = some (r, M') := hf
      refine r_catch (e := 1) hC ht [⟨0, 9, 12, 28⟩] ⟨0, 9, 15, 15⟩ [] rfl (by decide +kernel) (by decide) kw_cl_15 kw_cast_1 (by decide) (List.forall_mem_cons.mpr ⟨⟨by decide, 2, by decide, by decide, kw_cl_28⟩, fun z hz => absurd hz List.not_mem_nil⟩) (fun q => ?_)
      refine r_astore_n (L' := [(3, .ref q), (0, .ref (Z.1 0)), (1, .int v1), (2, .ref (Z.1 43))]) hC dL_removeBeat_15 (by decide) rfl ?_
      refine r_iconst (v := 2) hC dL_removeBeat_16 rfl ?_
      exact r_iret hf hC (by decide) (by decide) dL_removeBeat_17
    | 2, he, hf =>
      have hf : some ((1 : Int32), M1) = some (r, M') := hf
      refine r_catch (e := 2) hC ht [] ⟨0, 9, 12, 28⟩ [⟨0, 9, 15, 15⟩] rfl (by decide +kernel) (by decide) kw_cl_28 kw_cast_2 (by decide) (fun z hz => absurd hz List.not_mem_nil) (fun q => ?_)
      refine r_astore_n (L' := [(3, .ref q), (0, .ref (Z.1 0)), (1, .int v1), (2, .ref (Z.1 43))]) hC dL_removeBeat_12 (by decide) rfl ?_
      refine r_iconst (v := 1) hC dL_removeBeat_13 rfl ?_
      exact r_iret hf hC (by decide) (by decide) dL_removeBeat_14
    | n + 3, he, hf => have hf : (none : Option (Int32 × Mem)) = some (r, M') := hf; cases hf
  · rw [hx] at hf
    have hf : some ((0 : Int32), mw M1 43 0 x) = some (r, M') := hf
    refine r_i2l hC dL_removeBeat_7 ?_
    refine r_last hC hz (z_1 hZ 43 (by decide) rfl) (inb_vp (by decide)) dL_removeBeat_8 ?_
    refine r_goto 18 hC dL_removeBeat_9 (by decide) ?_
    refine r_iconst (v := 0) hC dL_removeBeat_18 rfl ?_
    exact r_iret hf hC (by decide) (by decide) dL_removeBeat_19
set_option maxRecDepth 20000 in
theorem c_L_removeBeat {l : Launch} (hl : l.stackTraces = false) {G : GG} {Z : ZZ} (hz : ZOk G Z) (hZ : ZM Z) (v1 : Int32) (M : Mem) (r : Int32) (M' : Mem) (hf : f_L_removeBeat v1 M = some (r, M')) : CW (QcI G Z r M') l G Z yL_removeBeat cL_removeBeat 4 (some .int) [(0, 9, 12, 28), (0, 9, 15, 15)] 8 2 12 [.ref (Z.1 0), .int v1, .ref (Z.1 43)] M :=
  CW.of [(0, .ref (Z.1 0)), (1, .int v1), (2, .ref (Z.1 43))] hl (by decide +kernel) (Nat.le_of_ble_eq_true rfl) rfl (fun _ hC ht => w_L_removeBeat hC ht hz hZ v1 M hf)
set_option maxRecDepth 20000 in
theorem w_L_undo {X : XX} {G : GG} {Z : ZZ} (hC : Cx X G RL cL_undo (some .int) 7 1 6 3) (ht : (xc X).exceptionTable.toList = tableOf [(0, 8, 11, 15)]) (hz : ZOk G Z) (hZ : ZM Z)  (M : Mem) {r : Int32} {M' : Mem} (hf : f_L_undo  M = some (r, M')) : V X G Z M 0 0 (QN X G (QcI G Z r M') 1 6) 0 [(0, .ref (Z.1 0)), (1, .ref (Z.1 43))] [] := by
  unfold f_L_undo at hf
  refine r_aload_n hC dL_undo_0 1 rfl ?_
  refine r_iconst (v := 0) hC dL_undo_1 rfl ?_
  refine r_aload_n hC dL_undo_2 0 rfl ?_
  refine r_hcallVI [.int 0, .ref (Z.1 43)] (fun r M1 h => c_X5_undo (cx_st hC) hz hZ  _ r M1 h) cs_L_54 hC (z_1 hZ 0 (by decide) rfl) (q0 := (RX5, TX5, 7)) rfl rfl [] rfl rfl rfl (by decide) (by decide) (Nat.le_of_ble_eq_true rfl) (by decide) (by decide) dL_undo_3 (fun h0 => by rw [h0] at hf; cases hf) (fun e M1 he => ?_) (fun x M1 hx => ?_)
  · rw [he] at hf
    match e, he, hf with
    | 0, he, hf => have hf : (none : Option (Int32 × Mem)) = some (r, M') := hf; cases hf
    | 1, he, hf =>
      have hf : some ((1 : Int32), M1) = some (r, M') := hf
      refine r_catch (e := 1) hC ht [] ⟨0, 8, 11, 15⟩ [] rfl (by decide +kernel) (by decide) kw_cl_15 kw_cast_1 (by decide) (fun z hz => absurd hz List.not_mem_nil) (fun q => ?_)
      refine r_astore_n (L' := [(2, .ref q), (0, .ref (Z.1 0)), (1, .ref (Z.1 43))]) hC dL_undo_11 (by decide) rfl ?_
      refine r_iconst (v := 1) hC dL_undo_12 rfl ?_
      exact r_iret hf hC (by decide) (by decide) dL_undo_13
    | 2, he, hf => have hf : (none : Option (Int32 × Mem)) = some (r, M') := hf; cases hf
    | n + 3, he, hf => have hf : (none : Option (Int32 × Mem)) = some (r, M') := hf; cases hf
  · rw [hx] at hf
    have hf : some ((0 : Int32), mw M1 43 0 x) = some (r, M') := hf
    refine r_i2l hC dL_undo_6 ?_
    refine r_last hC hz (z_1 hZ 43 (by decide) rfl) (inb_vp (by decide)) dL_undo_7 ?_
    refine r_goto 14 hC dL_undo_8 (by decide) ?_
    refine r_iconst (v := 0) hC dL_undo_14 rfl ?_
    exact r_iret hf hC (by decide) (by decide) dL_undo_15
set_option maxRecDepth 20000 in
theorem c_L_undo {l : Launch} (hl : l.stackTraces = false) {G : GG} {Z : ZZ} (hz : ZOk G Z) (hZ : ZM Z)  (M : Mem) (r : Int32) (M' : Mem) (hf : f_L_undo  M = some (r, M')) : CW (QcI G Z r M') l G Z yL_undo cL_undo 3 (some .int) [(0, 8, 11, 15)] 7 1 6 [.ref (Z.1 0), .ref (Z.1 43)] M :=
  CW.of [(0, .ref (Z.1 0)), (1, .ref (Z.1 43))] hl (by decide +kernel) (Nat.le_of_ble_eq_true rfl) rfl (fun _ hC ht => w_L_undo hC ht hz hZ  M hf)
set_option maxRecDepth 20000 in
theorem w_L_note {X : XX} {G : GG} {Z : ZZ} (hC : Cx X G RL cL_note (some .int) 9 3 18 6) (ht : (xc X).exceptionTable.toList = tableOf [(0, 12, 15, 28), (0, 12, 19, 13)]) (hz : ZOk G Z) (hZ : ZM Z) (v1 : Int32) (v2 : Int32) (v3 : Int32) (M : Mem) {r : Int32} {M' : Mem} (hf : f_L_note v1 v2 v3 M = some (r, M')) : V X G Z M 0 0 (QN X G (QcI G Z r M') 3 18) 0 [(0, .ref (Z.1 0)), (1, .int v1), (2, .int v2), (3, .int v3), (4, .ref (Z.1 43))] [] := by
  unfold f_L_note at hf
  refine r_aload hC dL_note_0 4 rfl ?_
  refine r_iconst (v := 0) hC dL_note_2 rfl ?_
  refine r_aload_n hC dL_note_3 0 rfl ?_
  refine r_iload_n hC dL_note_4 1 rfl ?_
  refine r_iload_n hC dL_note_5 2 rfl ?_
  refine r_iload_n hC dL_note_6 3 rfl ?_
  refine r_hcallVI [.int 0, .ref (Z.1 43)] (fun r M1 h => c_X5_note (cx_st hC) hz hZ v1 v2 v3 _ r M1 h) cs_L_57 hC (z_1 hZ 0 (by decide) rfl) (q0 := (RX5, TX5, 7)) rfl rfl [.int v1, .int v2, .int v3] rfl rfl rfl (by decide) (by decide) (Nat.le_of_ble_eq_true rfl) (by decide) (by decide) dL_note_7 (fun h0 => by rw [h0] at hf; cases hf) (fun e M1 he => ?_) (fun x M1 hx => ?_)
  · rw [he] at hf
    match e, he, hf with
    | 0, he, hf =>
      have hf : some ((2 : Int32), M1) = some (r, M') := hf
      refine r_catch (e := 0) hC ht [⟨0, 12, 15, 28⟩] ⟨0, 12, 19, 13⟩ [] rfl (by decide +kernel) (by decide) kw_cl_13 kw_cast_0 (by decide) (List.forall_mem_cons.mpr ⟨⟨by decide, 2, by decide, by decide, kw_cl_28⟩, fun z hz => absurd hz List.not_mem_nil⟩) (fun q => ?_)
      refine r_astore (L' := [(5, .ref q), (0, .ref (Z.1 0)), (1, .int v1), (2, .int v2), (3, .int v3), (4, .ref (Z.1 43))]) hC dL_note_19 (by decide) rfl ?_
      refine r_iconst (v := 2) hC dL_note_21 rfl ?_
      exact r_iret hf hC (by decide) (by decide) dL_note_22
    | 1, he, hf => have hf : (none : Option (Int32 × Mem)) = some (r, M') := hf; cases hf
    | 2, he, hf =>
      have hf : some ((1 : Int32), M1) = some (r, M') := hf
      refine r_catch (e := 2) hC ht [] ⟨0, 12, 15, 28⟩ [⟨0, 12, 19, 13⟩] rfl (by decide +kernel) (by decide) kw_cl_28 kw_cast_2 (by decide) (fun z hz => absurd hz List.not_mem_nil) (fun q => ?_)
      refine r_astore (L' := [(5, .ref q), (0, .ref (Z.1 0)), (1, .int v1), (2, .int v2), (3, .int v3), (4, .ref (Z.1 43))]) hC dL_note_15 (by decide) rfl ?_
      refine r_iconst (v := 1) hC dL_note_17 rfl ?_
      exact r_iret hf hC (by decide) (by decide) dL_note_18
    | n + 3, he, hf => have hf : (none : Option (Int32 × Mem)) = some (r, M') := hf; cases hf
  · rw [hx] at hf
    have hf : some ((0 : Int32), mw M1 43 0 x) = some (r, M') := hf
    refine r_i2l hC dL_note_10 ?_
    refine r_last hC hz (z_1 hZ 43 (by decide) rfl) (inb_vp (by decide)) dL_note_11 ?_
    refine r_goto 23 hC dL_note_12 (by decide) ?_
    refine r_iconst (v := 0) hC dL_note_23 rfl ?_
    exact r_iret hf hC (by decide) (by decide) dL_note_24
set_option maxRecDepth 20000 in
theorem c_L_note {l : Launch} (hl : l.stackTraces = false) {G : GG} {Z : ZZ} (hz : ZOk G Z) (hZ : ZM Z) (v1 : Int32) (v2 : Int32) (v3 : Int32) (M : Mem) (r : Int32) (M' : Mem) (hf : f_L_note v1 v2 v3 M = some (r, M')) : CW (QcI G Z r M') l G Z yL_note cL_note 6 (some .int) [(0, 12, 15, 28), (0, 12, 19, 13)] 9 3 18 [.ref (Z.1 0), .int v1, .int v2, .int v3, .ref (Z.1 43)] M :=
  CW.of [(0, .ref (Z.1 0)), (1, .int v1), (2, .int v2), (3, .int v3), (4, .ref (Z.1 43))] hl (by decide +kernel) (Nat.le_of_ble_eq_true rfl) rfl (fun _ hC ht => w_L_note hC ht hz hZ v1 v2 v3 M hf)
set_option maxRecDepth 20000 in
theorem w_L_hand {X : XX} {G : GG} {Z : ZZ} (hC : Cx X G RL cL_hand (some .int) 8 2 12 6) (ht : (xc X).exceptionTable.toList = tableOf [(0, 12, 15, 28), (0, 12, 19, 13)]) (hz : ZOk G Z) (hZ : ZM Z) (v1 : Int32) (v2 : Int32) (v3 : Int32) (M : Mem) {r : Int32} {M' : Mem} (hf : f_L_hand v1 v2 v3 M = some (r, M')) : V X G Z M 0 0 (QN X G (QcI G Z r M') 2 12) 0 [(0, .ref (Z.1 0)), (1, .int v1), (2, .int v2), (3, .int v3), (4, .ref (Z.1 43))] [] := by
  unfold f_L_hand at hf
  refine r_aload hC dL_hand_0 4 rfl ?_
  refine r_iconst (v := 0) hC dL_hand_2 rfl ?_
  refine r_aload_n hC dL_hand_3 0 rfl ?_
  refine r_iload_n hC dL_hand_4 1 rfl ?_
  refine r_iload_n hC dL_hand_5 2 rfl ?_
  refine r_iload_n hC dL_hand_6 3 rfl ?_
  refine r_hcallVI [.int 0, .ref (Z.1 43)] (fun r M1 h => c_X5_hand (cx_st hC) hz hZ v1 v2 v3 _ r M1 h) cs_L_60 hC (z_1 hZ 0 (by decide) rfl) (q0 := (RX5, TX5, 7)) rfl rfl [.int v1, .int v2, .int v3] rfl rfl rfl (by decide) (by decide) (Nat.le_of_ble_eq_true rfl) (by decide) (by decide) dL_hand_7 (fun h0 => by rw [h0] at hf; cases hf) (fun e M1 he => ?_) (fun x M1 hx => ?_)
  · rw [he] at hf
    match e, he, hf with
    | 0, he, hf =>
      have hf : some ((2 : Int32), M1) = some (r, M') := hf
      refine r_catch (e := 0) hC ht [⟨0, 12, 15, 28⟩] ⟨0, 12, 19, 13⟩ [] rfl (by decide +kernel) (by decide) kw_cl_13 kw_cast_0 (by decide) (List.forall_mem_cons.mpr ⟨⟨by decide, 2, by decide, by decide, kw_cl_28⟩, fun z hz => absurd hz List.not_mem_nil⟩) (fun q => ?_)
      refine r_astore (L' := [(5, .ref q), (0, .ref (Z.1 0)), (1, .int v1), (2, .int v2), (3, .int v3), (4, .ref (Z.1 43))]) hC dL_hand_19 (by decide) rfl ?_
      refine r_iconst (v := 2) hC dL_hand_21 rfl ?_
      exact r_iret hf hC (by decide) (by decide) dL_hand_22
    | 1, he, hf => have hf : (none : Option (Int32 × Mem)) = some (r, M') := hf; cases hf
    | 2, he, hf =>
      have hf : some ((1 : Int32), M1) = some (r, M') := hf
      refine r_catch (e := 2) hC ht [] ⟨0, 12, 15, 28⟩ [⟨0, 12, 19, 13⟩] rfl (by decide +kernel) (by decide) kw_cl_28 kw_cast_2 (by decide) (fun z hz => absurd hz List.not_mem_nil) (fun q => ?_)
      refine r_astore (L' := [(5, .ref q), (0, .ref (Z.1 0)), (1, .int v1), (2, .int v2), (3, .int v3), (4, .ref (Z.1 43))]) hC dL_hand_15 (by decide) rfl ?_
      refine r_iconst (v := 1) hC dL_hand_17 rfl ?_
      exact r_iret hf hC (by decide) (by decide) dL_hand_18
    | n + 3, he, hf => have hf : (none : Option (Int32 × Mem)) = some (r, M') := hf; cases hf
  · rw [hx] at hf
    have hf : some ((0 : Int32), mw M1 43 0 x) = some (r, M') := hf
    refine r_i2l hC dL_hand_10 ?_
    refine r_last hC hz (z_1 hZ 43 (by decide) rfl) (inb_vp (by decide)) dL_hand_11 ?_
    refine r_goto 23 hC dL_hand_12 (by decide) ?_
    refine r_iconst (v := 0) hC dL_hand_23 rfl ?_
    exact r_iret hf hC (by decide) (by decide) dL_hand_24
set_option maxRecDepth 20000 in
theorem c_L_hand {l : Launch} (hl : l.stackTraces = false) {G : GG} {Z : ZZ} (hz : ZOk G Z) (hZ : ZM Z) (v1 : Int32) (v2 : Int32) (v3 : Int32) (M : Mem) (r : Int32) (M' : Mem) (hf : f_L_hand v1 v2 v3 M = some (r, M')) : CW (QcI G Z r M') l G Z yL_hand cL_hand 6 (some .int) [(0, 12, 15, 28), (0, 12, 19, 13)] 8 2 12 [.ref (Z.1 0), .int v1, .int v2, .int v3, .ref (Z.1 43)] M :=
  CW.of [(0, .ref (Z.1 0)), (1, .int v1), (2, .int v2), (3, .int v3), (4, .ref (Z.1 43))] hl (by decide +kernel) (Nat.le_of_ble_eq_true rfl) rfl (fun _ hC ht => w_L_hand hC ht hz hZ v1 v2 v3 M hf)
set_option maxRecDepth 20000 in
theorem w_L_beat {X : XX} {G : GG} {Z : ZZ} (hC : Cx X G RL cL_beat (some .int) 8 2 12 5) (ht : (xc X).exceptionTable.toList = tableOf [(0, 10, 13, 28), (0, 10, 17, 13)]) (hz : ZOk G Z) (hZ : ZM Z) (v1 : Int32) (v2 : Int32) (M : Mem) {r : Int32} {M' : Mem} (hf : f_L_beat v1 v2 M = some (r, M')) : V X G Z M 0 0 (QN X G (QcI G Z r M') 2 12) 0 [(0, .ref (Z.1 0)), (1, .int v1), (2, .int v2), (3, .ref (Z.1 43))] [] := by
  unfold f_L_beat at hf
  refine r_aload_n hC dL_beat_0 3 rfl ?_
  refine r_iconst (v := 0) hC dL_beat_1 rfl ?_
  refine r_aload_n hC dL_beat_2 0 rfl ?_
  refine r_iload_n hC dL_beat_3 1 rfl ?_
  refine r_iload_n hC dL_beat_4 2 rfl ?_
  refine r_hcallVI [.int 0, .ref (Z.1 43)] (fun r M1 h => c_X5_beat (cx_st hC) hz hZ v1 v2 _ r M1 h) cs_L_63 hC (z_1 hZ 0 (by decide) rfl) (q0 := (RX5, TX5, 7)) rfl rfl [.int v1, .int v2] rfl rfl rfl (by decide) (by decide) (Nat.le_of_ble_eq_true rfl) (by decide) (by decide) dL_beat_5 (fun h0 => by rw [h0] at hf; cases hf) (fun e M1 he => ?_) (fun x M1 hx => ?_)
  · rw [he] at hf
    match e, he, hf with
    | 0, he, hf =>
      have hf : some ((2 : Int32), M1) = some (r, M') := hf
      refine r_catch (e := 0) hC ht [⟨0, 10, 13, 28⟩] ⟨0, 10, 17, 13⟩ [] rfl (by decide +kernel) (by decide) kw_cl_13 kw_cast_0 (by decide) (List.forall_mem_cons.mpr ⟨⟨by decide, 2, by decide, by decide, kw_cl_28⟩, fun z hz => absurd hz List.not_mem_nil⟩) (fun q => ?_)
      refine r_astore (L' := [(4, .ref q), (0, .ref (Z.1 0)), (1, .int v1), (2, .int v2), (3, .ref (Z.1 43))]) hC dL_beat_17 (by decide) rfl ?_
      refine r_iconst (v := 2) hC dL_beat_19 rfl ?_
      exact r_iret hf hC (by decide) (by decide) dL_beat_20
    | 1, he, hf => have hf : (none : Option (Int32 × Mem)) = some (r, M') := hf; cases hf
    | 2, he, hf =>
      have hf : some ((1 : Int32), M1) = some (r, M') := hf
      refine r_catch (e := 2) hC ht [] ⟨0, 10, 13, 28⟩ [⟨0, 10, 17, 13⟩] rfl (by decide +kernel) (by decide) kw_cl_28 kw_cast_2 (by decide) (fun z hz => absurd hz List.not_mem_nil) (fun q => ?_)
      refine r_astore (L' := [(4, .ref q), (0, .ref (Z.1 0)), (1, .int v1), (2, .int v2), (3, .ref (Z.1 43))]) hC dL_beat_13 (by decide) rfl ?_
      refine r_iconst (v := 1) hC dL_beat_15 rfl ?_
      exact r_iret hf hC (by decide) (by decide) dL_beat_16
    | n + 3, he, hf => have hf : (none : Option (Int32 × Mem)) = some (r, M') := hf; cases hf
  · rw [hx] at hf
    have hf : some ((0 : Int32), mw M1 43 0 x) = some (r, M') := hf
    refine r_i2l hC dL_beat_8 ?_
    refine r_last hC hz (z_1 hZ 43 (by decide) rfl) (inb_vp (by decide)) dL_beat_9 ?_
    refine r_goto 21 hC dL_beat_10 (by decide) ?_
    refine r_iconst (v := 0) hC dL_beat_21 rfl ?_
    exact r_iret hf hC (by decide) (by decide) dL_beat_22
set_option maxRecDepth 20000 in
theorem c_L_beat {l : Launch} (hl : l.stackTraces = false) {G : GG} {Z : ZZ} (hz : ZOk G Z) (hZ : ZM Z) (v1 : Int32) (v2 : Int32) (M : Mem) (r : Int32) (M' : Mem) (hf : f_L_beat v1 v2 M = some (r, M')) : CW (QcI G Z r M') l G Z yL_beat cL_beat 5 (some .int) [(0, 10, 13, 28), (0, 10, 17, 13)] 8 2 12 [.ref (Z.1 0), .int v1, .int v2, .ref (Z.1 43)] M :=
  CW.of [(0, .ref (Z.1 0)), (1, .int v1), (2, .int v2), (3, .ref (Z.1 43))] hl (by decide +kernel) (Nat.le_of_ble_eq_true rfl) rfl (fun _ hC ht => w_L_beat hC ht hz hZ v1 v2 M hf)
set_option maxRecDepth 20000 in
theorem w_L_whole {X : XX} {G : GG} {Z : ZZ} (hC : Cx X G RL cL_whole (some .int) 8 1 6 4) (ht : (xc X).exceptionTable.toList = tableOf [(0, 9, 12, 13)]) (hz : ZOk G Z) (hZ : ZM Z) (v1 : Int32) (M : Mem) {r : Int32} {M' : Mem} (hf : f_L_whole v1 M = some (r, M')) : V X G Z M 0 0 (QN X G (QcI G Z r M') 1 6) 0 [(0, .ref (Z.1 0)), (1, .int v1), (2, .ref (Z.1 43))] [] := by
  unfold f_L_whole at hf
  refine r_aload_n hC dL_whole_0 2 rfl ?_
  refine r_iconst (v := 0) hC dL_whole_1 rfl ?_
  refine r_aload_n hC dL_whole_2 0 rfl ?_
  refine r_iload_n hC dL_whole_3 1 rfl ?_
  refine r_hcallVI [.int 0, .ref (Z.1 43)] (fun r M1 h => c_X5_whole (cx_st hC) hz hZ v1 _ r M1 h) cs_L_66 hC (z_1 hZ 0 (by decide) rfl) (q0 := (RX5, TX5, 7)) rfl rfl [.int v1] rfl rfl rfl (by decide) (by decide) (Nat.le_of_ble_eq_true rfl) (by decide) (by decide) dL_whole_4 (fun h0 => by rw [h0] at hf; cases hf) (fun e M1 he => ?_) (fun x M1 hx => ?_)
  · rw [he] at hf
    match e, he, hf with
    | 0, he, hf =>
      have hf : some ((1 : Int32), M1) = some (r, M') := hf
      refine r_catch (e := 0) hC ht [] ⟨0, 9, 12, 13⟩ [] rfl (by decide +kernel) (by decide) kw_cl_13 kw_cast_0 (by decide) (fun z hz => absurd hz List.not_mem_nil) (fun q => ?_)
      refine r_astore_n (L' := [(3, .ref q), (0, .ref (Z.1 0)), (1, .int v1), (2, .ref (Z.1 43))]) hC dL_whole_12 (by decide) rfl ?_
      refine r_iconst (v := 1) hC dL_whole_13 rfl ?_
      exact r_iret hf hC (by decide) (by decide) dL_whole_14
    | 1, he, hf => have hf : (none : Option (Int32 × Mem)) = some (r, M') := hf; cases hf
    | 2, he, hf => have hf : (none : Option (Int32 × Mem)) = some (r, M') := hf; cases hf
    | n + 3, he, hf => have hf : (none : Option (Int32 × Mem)) = some (r, M') := hf; cases hf
  · rw [hx] at hf
    have hf : some ((0 : Int32), mw M1 43 0 x) = some (r, M') := hf
    refine r_i2l hC dL_whole_7 ?_
    refine r_last hC hz (z_1 hZ 43 (by decide) rfl) (inb_vp (by decide)) dL_whole_8 ?_
    refine r_goto 15 hC dL_whole_9 (by decide) ?_
    refine r_iconst (v := 0) hC dL_whole_15 rfl ?_
    exact r_iret hf hC (by decide) (by decide) dL_whole_16
set_option maxRecDepth 20000 in
theorem c_L_whole {l : Launch} (hl : l.stackTraces = false) {G : GG} {Z : ZZ} (hz : ZOk G Z) (hZ : ZM Z) (v1 : Int32) (M : Mem) (r : Int32) (M' : Mem) (hf : f_L_whole v1 M = some (r, M')) : CW (QcI G Z r M') l G Z yL_whole cL_whole 4 (some .int) [(0, 9, 12, 13)] 8 1 6 [.ref (Z.1 0), .int v1, .ref (Z.1 43)] M :=
  CW.of [(0, .ref (Z.1 0)), (1, .int v1), (2, .ref (Z.1 43))] hl (by decide +kernel) (Nat.le_of_ble_eq_true rfl) rfl (fun _ hC ht => w_L_whole hC ht hz hZ v1 M hf)
set_option maxRecDepth 20000 in
theorem w_L_whatIf {X : XX} {G : GG} {Z : ZZ} (hC : Cx X G RL cL_whatIf (some .int) 8 1 6 6) (ht : (xc X).exceptionTable.toList = tableOf [(0, 12, 15, 13)]) (hz : ZOk G Z) (hZ : ZM Z) (v1 : Int32) (v2 : Int32) (v3 : Int32) (M : Mem) {r : Int32} {M' : Mem} (hf : f_L_whatIf v1 v2 v3 M = some (r, M')) : V X G Z M 0 0 (QN X G (QcI G Z r M') 1 6) 0 [(0, .ref (Z.1 0)), (1, .int v1), (2, .int v2), (3, .int v3), (4, .ref (Z.1 43))] [] := by
  unfold f_L_whatIf at hf
  refine r_aload hC dL_whatIf_0 4 rfl ?_
  refine r_iconst (v := 0) hC dL_whatIf_2 rfl ?_
  refine r_aload_n hC dL_whatIf_3 0 rfl ?_
  refine r_iload_n hC dL_whatIf_4 1 rfl ?_
  refine r_iload_n hC dL_whatIf_5 2 rfl ?_
  refine r_iload_n hC dL_whatIf_6 3 rfl ?_
  refine r_hcallVI [.int 0, .ref (Z.1 43)] (fun r M1 h => c_X5_whatIf (cx_st hC) hz hZ v1 v2 v3 _ r M1 h) cs_L_69 hC (z_1 hZ 0 (by decide) rfl) (q0 := (RX5, TX5, 7)) rfl rfl [.int v1, .int v2, .int v3] rfl rfl rfl (by decide) (by decide) (Nat.le_of_ble_eq_true rfl) (by decide) (by decide) dL_whatIf_7 (fun h0 => by rw [h0] at hf; cases hf) (fun e M1 he => ?_) (fun x M1 hx => ?_)
  · rw [he] at hf
    match e, he, hf with
    | 0, he, hf =>
      have hf : some ((1 : Int32), M1) = some (r, M') := hf
      refine r_catch (e := 0) hC ht [] ⟨0, 12, 15, 13⟩ [] rfl (by decide +kernel) (by decide) kw_cl_13 kw_cast_0 (by decide) (fun z hz => absurd hz List.not_mem_nil) (fun q => ?_)
      refine r_astore (L' := [(5, .ref q), (0, .ref (Z.1 0)), (1, .int v1), (2, .int v2), (3, .int v3), (4, .ref (Z.1 43))]) hC dL_whatIf_15 (by decide) rfl ?_
      refine r_iconst (v := 1) hC dL_whatIf_17 rfl ?_
      exact r_iret hf hC (by decide) (by decide) dL_whatIf_18
    | 1, he, hf => have hf : (none : Option (Int32 × Mem)) = some (r, M') := hf; cases hf
    | 2, he, hf => have hf : (none : Option (Int32 × Mem)) = some (r, M') := hf; cases hf
    | n + 3, he, hf => have hf : (none : Option (Int32 × Mem)) = some (r, M') := hf; cases hf
  · rw [hx] at hf
    have hf : some ((0 : Int32), mw M1 43 0 x) = some (r, M') := hf
    refine r_i2l hC dL_whatIf_10 ?_
    refine r_last hC hz (z_1 hZ 43 (by decide) rfl) (inb_vp (by decide)) dL_whatIf_11 ?_
    refine r_goto 19 hC dL_whatIf_12 (by decide) ?_
    refine r_iconst (v := 0) hC dL_whatIf_19 rfl ?_
    exact r_iret hf hC (by decide) (by decide) dL_whatIf_20
set_option maxRecDepth 20000 in
theorem c_L_whatIf {l : Launch} (hl : l.stackTraces = false) {G : GG} {Z : ZZ} (hz : ZOk G Z) (hZ : ZM Z) (v1 : Int32) (v2 : Int32) (v3 : Int32) (M : Mem) (r : Int32) (M' : Mem) (hf : f_L_whatIf v1 v2 v3 M = some (r, M')) : CW (QcI G Z r M') l G Z yL_whatIf cL_whatIf 6 (some .int) [(0, 12, 15, 13)] 8 1 6 [.ref (Z.1 0), .int v1, .int v2, .int v3, .ref (Z.1 43)] M :=
  CW.of [(0, .ref (Z.1 0)), (1, .int v1), (2, .int v2), (3, .int v3), (4, .ref (Z.1 43))] hl (by decide +kernel) (Nat.le_of_ble_eq_true rfl) rfl (fun _ hC ht => w_L_whatIf hC ht hz hZ v1 v2 v3 M hf)
set_option maxRecDepth 20000 in
theorem w_L_bestTransposition {X : XX} {G : GG} {Z : ZZ} (hC : Cx X G RL cL_bestTransposition (some .int) 8 1 6 4) (ht : (xc X).exceptionTable.toList = tableOf [(0, 9, 12, 28)]) (hz : ZOk G Z) (hZ : ZM Z) (v1 : Int32) (M : Mem) {r : Int32} {M' : Mem} (hf : f_L_bestTransposition v1 M = some (r, M')) : V X G Z M 0 0 (QN X G (QcI G Z r M') 1 6) 0 [(0, .ref (Z.1 0)), (1, .int v1), (2, .ref (Z.1 43))] [] := by
  unfold f_L_bestTransposition at hf
  refine r_aload_n hC dL_bestTransposition_0 2 rfl ?_
  refine r_iconst (v := 0) hC dL_bestTransposition_1 rfl ?_
  refine r_aload_n hC dL_bestTransposition_2 0 rfl ?_
  refine r_iload_n hC dL_bestTransposition_3 1 rfl ?_
  refine r_hcallVI [.int 0, .ref (Z.1 43)] (fun r M1 h => c_X5_bestTransposition (cx_st hC) hz hZ v1 _ r M1 h) cs_L_72 hC (z_1 hZ 0 (by decide) rfl) (q0 := (RX5, TX5, 7)) rfl rfl [.int v1] rfl rfl rfl (by decide) (by decide) (Nat.le_of_ble_eq_true rfl) (by decide) (by decide) dL_bestTransposition_4 (fun h0 => by rw [h0] at hf; cases hf) (fun e M1 he => ?_) (fun x M1 hx => ?_)
  · rw [he] at hf
    match e, he, hf with
    | 0, he, hf => have hf : (none : Option (Int32 × Mem)) = some (r, M') := hf; cases hf
    | 1, he, hf => have hf : (none : Option (Int32 × Mem)) = some (r, M') := hf; cases hf
    | 2, he, hf =>
      have hf : some ((1 : Int32), M1) = some (r, M') := hf
      refine r_catch (e := 2) hC ht [] ⟨0, 9, 12, 28⟩ [] rfl (by decide +kernel) (by decide) kw_cl_28 kw_cast_2 (by decide) (fun z hz => absurd hz List.not_mem_nil) (fun q => ?_)
      refine r_astore_n (L' := [(3, .ref q), (0, .ref (Z.1 0)), (1, .int v1), (2, .ref (Z.1 43))]) hC dL_bestTransposition_12 (by decide) rfl ?_
      refine r_iconst (v := 1) hC dL_bestTransposition_13 rfl ?_
      exact r_iret hf hC (by decide) (by decide) dL_bestTransposition_14
    | n + 3, he, hf => have hf : (none : Option (Int32 × Mem)) = some (r, M') := hf; cases hf
  · rw [hx] at hf
    have hf : some ((0 : Int32), mw M1 43 0 x) = some (r, M') := hf
    refine r_i2l hC dL_bestTransposition_7 ?_
    refine r_last hC hz (z_1 hZ 43 (by decide) rfl) (inb_vp (by decide)) dL_bestTransposition_8 ?_
    refine r_goto 15 hC dL_bestTransposition_9 (by decide) ?_
    refine r_iconst (v := 0) hC dL_bestTransposition_15 rfl ?_
    exact r_iret hf hC (by decide) (by decide) dL_bestTransposition_16
set_option maxRecDepth 20000 in
theorem c_L_bestTransposition {l : Launch} (hl : l.stackTraces = false) {G : GG} {Z : ZZ} (hz : ZOk G Z) (hZ : ZM Z) (v1 : Int32) (M : Mem) (r : Int32) (M' : Mem) (hf : f_L_bestTransposition v1 M = some (r, M')) : CW (QcI G Z r M') l G Z yL_bestTransposition cL_bestTransposition 4 (some .int) [(0, 9, 12, 28)] 8 1 6 [.ref (Z.1 0), .int v1, .ref (Z.1 43)] M :=
  CW.of [(0, .ref (Z.1 0)), (1, .int v1), (2, .ref (Z.1 43))] hl (by decide +kernel) (Nat.le_of_ble_eq_true rfl) rfl (fun _ hC ht => w_L_bestTransposition hC ht hz hZ v1 M hf)
set_option maxRecDepth 20000 in
theorem w_L_runScript {X : XX} {G : GG} {Z : ZZ} (hC : Cx X G RL cL_runScript (some .int) 8 1 6 6) (ht : (xc X).exceptionTable.toList = tableOf [(0, 11, 14, 13)]) (hz : ZOk G Z) (hZ : ZM Z) (v1 : Int32) (w2 : Int64) (M : Mem) {r : Int32} {M' : Mem} (hf : f_L_runScript v1 w2 M = some (r, M')) : V X G Z M 0 0 (QN X G (QcI G Z r M') 1 6) 0 [(0, .ref (Z.1 0)), (1, .int v1), (2, .long w2), (4, .ref (Z.1 43))] [] := by
  unfold f_L_runScript at hf
  refine r_aload hC dL_runScript_0 3 rfl ?_
  refine r_iconst (v := 0) hC dL_runScript_2 rfl ?_
  refine r_aload_n hC dL_runScript_3 0 rfl ?_
  refine r_iload_n hC dL_runScript_4 1 rfl ?_
  refine r_lload_n hC dL_runScript_5 2 rfl ?_
  refine r_hcallVI [.int 0, .ref (Z.1 43)] (fun r M1 h => c_X5_runScript (cx_st hC) hz hZ v1 w2 _ r M1 h) cs_L_75 hC (z_1 hZ 0 (by decide) rfl) (q0 := (RX5, TX5, 7)) rfl rfl [.int v1, .long w2] rfl rfl rfl (by decide) (by decide) (Nat.le_of_ble_eq_true rfl) (by decide) (by decide) dL_runScript_6 (fun h0 => by rw [h0] at hf; cases hf) (fun e M1 he => ?_) (fun x M1 hx => ?_)
  · rw [he] at hf
    match e, he, hf with
    | 0, he, hf =>
      have hf : some ((1 : Int32), M1) = some (r, M') := hf
      refine r_catch (e := 0) hC ht [] ⟨0, 11, 14, 13⟩ [] rfl (by decide +kernel) (by decide) kw_cl_13 kw_cast_0 (by decide) (fun z hz => absurd hz List.not_mem_nil) (fun q => ?_)
      refine r_astore (L' := [(5, .ref q), (0, .ref (Z.1 0)), (1, .int v1), (2, .long w2), (4, .ref (Z.1 43))]) hC dL_runScript_14 (by decide) rfl ?_
      refine r_iconst (v := 1) hC dL_runScript_16 rfl ?_
      exact r_iret hf hC (by decide) (by decide) dL_runScript_17
    | 1, he, hf => have hf : (none : Option (Int32 × Mem)) = some (r, M') := hf; cases hf
    | 2, he, hf => have hf : (none : Option (Int32 × Mem)) = some (r, M') := hf; cases hf
    | n + 3, he, hf => have hf : (none : Option (Int32 × Mem)) = some (r, M') := hf; cases hf
  · rw [hx] at hf
    have hf : some ((0 : Int32), mw M1 43 0 x) = some (r, M') := hf
    refine r_i2l hC dL_runScript_9 ?_
    refine r_last hC hz (z_1 hZ 43 (by decide) rfl) (inb_vp (by decide)) dL_runScript_10 ?_
    refine r_goto 18 hC dL_runScript_11 (by decide) ?_
    refine r_iconst (v := 0) hC dL_runScript_18 rfl ?_
    exact r_iret hf hC (by decide) (by decide) dL_runScript_19
set_option maxRecDepth 20000 in
theorem c_L_runScript {l : Launch} (hl : l.stackTraces = false) {G : GG} {Z : ZZ} (hz : ZOk G Z) (hZ : ZM Z) (v1 : Int32) (w2 : Int64) (M : Mem) (r : Int32) (M' : Mem) (hf : f_L_runScript v1 w2 M = some (r, M')) : CW (QcI G Z r M') l G Z yL_runScript cL_runScript 6 (some .int) [(0, 11, 14, 13)] 8 1 6 [.ref (Z.1 0), .int v1, .long w2, .ref (Z.1 43)] M :=
  CW.of [(0, .ref (Z.1 0)), (1, .int v1), (2, .long w2), (4, .ref (Z.1 43))] hl (by decide +kernel) (Nat.le_of_ble_eq_true rfl) rfl (fun _ hC ht => w_L_runScript hC ht hz hZ v1 w2 M hf)
set_option maxRecDepth 20000 in
theorem w_L_simulate {X : XX} {G : GG} {Z : ZZ} (hC : Cx X G RL cL_simulate (some .int) 7 1 6 6) (ht : (xc X).exceptionTable.toList = tableOf [(0, 11, 14, 13)]) (hz : ZOk G Z) (hZ : ZM Z) (w1 : Int64) (v3 : Int32) (M : Mem) {r : Int32} {M' : Mem} (hf : f_L_simulate w1 v3 M = some (r, M')) : V X G Z M 0 0 (QN X G (QcI G Z r M') 1 6) 0 [(0, .ref (Z.1 0)), (1, .long w1), (3, .int v3), (4, .ref (Z.1 43))] [] := by
  unfold f_L_simulate at hf
  refine r_aload hC dL_simulate_0 3 rfl ?_
  refine r_iconst (v := 0) hC dL_simulate_2 rfl ?_
  refine r_aload_n hC dL_simulate_3 0 rfl ?_
  refine r_lload_n hC dL_simulate_4 1 rfl ?_
  refine r_iload_n hC dL_simulate_5 2 rfl ?_
  refine r_hcallVI [.int 0, .ref (Z.1 43)] (fun r M1 h => c_X5_simulate (cx_st hC) hz hZ w1 v3 _ r M1 h) cs_L_79 hC (z_1 hZ 0 (by decide) rfl) (q0 := (RX5, TX5, 7)) rfl rfl [.long w1, .int v3] rfl rfl rfl (by decide) (by decide) (Nat.le_of_ble_eq_true rfl) (by decide) (by decide) dL_simulate_6 (fun h0 => by rw [h0] at hf; cases hf) (fun e M1 he => ?_) (fun x M1 hx => ?_)
  · rw [he] at hf
    match e, he, hf with
    | 0, he, hf =>
      have hf : some ((1 : Int32), M1) = some (r, M') := hf
      refine r_catch (e := 0) hC ht [] ⟨0, 11, 14, 13⟩ [] rfl (by decide +kernel) (by decide) kw_cl_13 kw_cast_0 (by decide) (fun z hz => absurd hz List.not_mem_nil) (fun q => ?_)
      refine r_astore (L' := [(5, .ref q), (0, .ref (Z.1 0)), (1, .long w1), (3, .int v3), (4, .ref (Z.1 43))]) hC dL_simulate_14 (by decide) rfl ?_
      refine r_iconst (v := 1) hC dL_simulate_16 rfl ?_
      exact r_iret hf hC (by decide) (by decide) dL_simulate_17
    | 1, he, hf => have hf : (none : Option (Int32 × Mem)) = some (r, M') := hf; cases hf
    | 2, he, hf => have hf : (none : Option (Int32 × Mem)) = some (r, M') := hf; cases hf
    | n + 3, he, hf => have hf : (none : Option (Int32 × Mem)) = some (r, M') := hf; cases hf
  · rw [hx] at hf
    have hf : some ((0 : Int32), mw M1 43 0 x) = some (r, M') := hf
    refine r_i2l hC dL_simulate_9 ?_
    refine r_last hC hz (z_1 hZ 43 (by decide) rfl) (inb_vp (by decide)) dL_simulate_10 ?_
    refine r_goto 18 hC dL_simulate_11 (by decide) ?_
    refine r_iconst (v := 0) hC dL_simulate_18 rfl ?_
    exact r_iret hf hC (by decide) (by decide) dL_simulate_19
set_option maxRecDepth 20000 in
theorem c_L_simulate {l : Launch} (hl : l.stackTraces = false) {G : GG} {Z : ZZ} (hz : ZOk G Z) (hZ : ZM Z) (w1 : Int64) (v3 : Int32) (M : Mem) (r : Int32) (M' : Mem) (hf : f_L_simulate w1 v3 M = some (r, M')) : CW (QcI G Z r M') l G Z yL_simulate cL_simulate 6 (some .int) [(0, 11, 14, 13)] 7 1 6 [.ref (Z.1 0), .long w1, .int v3, .ref (Z.1 43)] M :=
  CW.of [(0, .ref (Z.1 0)), (1, .long w1), (3, .int v3), (4, .ref (Z.1 43))] hl (by decide +kernel) (Nat.le_of_ble_eq_true rfl) rfl (fun _ hC ht => w_L_simulate hC ht hz hZ w1 v3 M hf)
set_option maxRecDepth 20000 in
theorem w_L_save {X : XX} {G : GG} {Z : ZZ} (hC : Cx X G RL cL_save (some .int) 8 1 6 4) (ht : (xc X).exceptionTable.toList = tableOf [(0, 9, 12, 28)]) (hz : ZOk G Z) (hZ : ZM Z) (v1 : Int32) (M : Mem) {r : Int32} {M' : Mem} (hf : f_L_save v1 M = some (r, M')) : V X G Z M 0 0 (QN X G (QcI G Z r M') 1 6) 0 [(0, .ref (Z.1 0)), (1, .int v1), (2, .ref (Z.1 43))] [] := by
  unfold f_L_save at hf
  refine r_aload_n hC dL_save_0 2 rfl ?_
  refine r_iconst (v := 0) hC dL_save_1 rfl ?_
  refine r_aload_n hC dL_save_2 0 rfl ?_
  refine r_iload_n hC dL_save_3 1 rfl ?_
  refine r_hcallVI [.int 0, .ref (Z.1 43)] (fun r M1 h => c_X5_save (cx_st hC) hz hZ v1 _ r M1 h) cs_L_83 hC (z_1 hZ 0 (by decide) rfl) (q0 := (RX5, TX5, 7)) rfl rfl [.int v1] rfl rfl rfl (by decide) (by decide) (Nat.le_of_ble_eq_true rfl) (by decide) (by decide) dL_save_4 (fun h0 => by rw [h0] at hf; cases hf) (fun e M1 he => ?_) (fun x M1 hx => ?_)
  · rw [he] at hf
    match e, he, hf with
    | 0, he, hf => have hf : (none : Option (Int32 × Mem)) = some (r, M') := hf; cases hf
    | 1, he, hf => have hf : (none : Option (Int32 × Mem)) = some (r, M') := hf; cases hf
    | 2, he, hf =>
      have hf : some ((1 : Int32), M1) = some (r, M') := hf
      refine r_catch (e := 2) hC ht [] ⟨0, 9, 12, 28⟩ [] rfl (by decide +kernel) (by decide) kw_cl_28 kw_cast_2 (by decide) (fun z hz => absurd hz List.not_mem_nil) (fun q => ?_)
      refine r_astore_n (L' := [(3, .ref q), (0, .ref (Z.1 0)), (1, .int v1), (2, .ref (Z.1 43))]) hC dL_save_12 (by decide) rfl ?_
      refine r_iconst (v := 1) hC dL_save_13 rfl ?_
      exact r_iret hf hC (by decide) (by decide) dL_save_14
    | n + 3, he, hf => have hf : (none : Option (Int32 × Mem)) = some (r, M') := hf; cases hf
  · rw [hx] at hf
    have hf : some ((0 : Int32), mw M1 43 0 x) = some (r, M') := hf
    refine r_i2l hC dL_save_7 ?_
    refine r_last hC hz (z_1 hZ 43 (by decide) rfl) (inb_vp (by decide)) dL_save_8 ?_
    refine r_goto 15 hC dL_save_9 (by decide) ?_
    refine r_iconst (v := 0) hC dL_save_15 rfl ?_
    exact r_iret hf hC (by decide) (by decide) dL_save_16
set_option maxRecDepth 20000 in
theorem c_L_save {l : Launch} (hl : l.stackTraces = false) {G : GG} {Z : ZZ} (hz : ZOk G Z) (hZ : ZM Z) (v1 : Int32) (M : Mem) (r : Int32) (M' : Mem) (hf : f_L_save v1 M = some (r, M')) : CW (QcI G Z r M') l G Z yL_save cL_save 4 (some .int) [(0, 9, 12, 28)] 8 1 6 [.ref (Z.1 0), .int v1, .ref (Z.1 43)] M :=
  CW.of [(0, .ref (Z.1 0)), (1, .int v1), (2, .ref (Z.1 43))] hl (by decide +kernel) (Nat.le_of_ble_eq_true rfl) rfl (fun _ hC ht => w_L_save hC ht hz hZ v1 M hf)
set_option maxRecDepth 20000 in
theorem w_L_restore {X : XX} {G : GG} {Z : ZZ} (hC : Cx X G RL cL_restore (some .int) 8 2 12 4) (ht : (xc X).exceptionTable.toList = tableOf [(0, 9, 12, 28), (0, 9, 15, 15)]) (hz : ZOk G Z) (hZ : ZM Z) (v1 : Int32) (M : Mem) {r : Int32} {M' : Mem} (hf : f_L_restore v1 M = some (r, M')) : V X G Z M 0 0 (QN X G (QcI G Z r M') 2 12) 0 [(0, .ref (Z.1 0)), (1, .int v1), (2, .ref (Z.1 43))] [] := by
  unfold f_L_restore at hf
  refine r_aload_n hC dL_restore_0 2 rfl ?_
  refine r_iconst (v := 0) hC dL_restore_1 rfl ?_
  refine r_aload_n hC dL_restore_2 0 rfl ?_
  refine r_iload_n hC dL_restore_3 1 rfl ?_
  refine r_hcallVI [.int 0, .ref (Z.1 43)] (fun r M1 h => c_X5_restore (cx_st hC) hz hZ v1 _ r M1 h) cs_L_86 hC (z_1 hZ 0 (by decide) rfl) (q0 := (RX5, TX5, 7)) rfl rfl [.int v1] rfl rfl rfl (by decide) (by decide) (Nat.le_of_ble_eq_true rfl) (by decide) (by decide) dL_restore_4 (fun h0 => by rw [h0] at hf; cases hf) (fun e M1 he => ?_) (fun x M1 hx => ?_)
  · rw [he] at hf
    match e, he, hf with
    | 0, he, hf => have hf : (none : Option (Int32 × Mem)) = some (r, M') := hf; cases hf
    | 1, he, hf =>
      have hf : some ((2 : Int32), M1) = some (r, M') := hf
      refine r_catch (e := 1) hC ht [⟨0, 9, 12, 28⟩] ⟨0, 9, 15, 15⟩ [] rfl (by decide +kernel) (by decide) kw_cl_15 kw_cast_1 (by decide) (List.forall_mem_cons.mpr ⟨⟨by decide, 2, by decide, by decide, kw_cl_28⟩, fun z hz => absurd hz List.not_mem_nil⟩) (fun q => ?_)
      refine r_astore_n (L' := [(3, .ref q), (0, .ref (Z.1 0)), (1, .int v1), (2, .ref (Z.1 43))]) hC dL_restore_15 (by decide) rfl ?_
      refine r_iconst (v := 2) hC dL_restore_16 rfl ?_
      exact r_iret hf hC (by decide) (by decide) dL_restore_17
    | 2, he, hf =>
      have hf : some ((1 : Int32), M1) = some (r, M') := hf
      refine r_catch (e := 2) hC ht [] ⟨0, 9, 12, 28⟩ [⟨0, 9, 15, 15⟩] rfl (by decide +kernel) (by decide) kw_cl_28 kw_cast_2 (by decide) (fun z hz => absurd hz List.not_mem_nil) (fun q => ?_)
      refine r_astore_n (L' := [(3, .ref q), (0, .ref (Z.1 0)), (1, .int v1), (2, .ref (Z.1 43))]) hC dL_restore_12 (by decide) rfl ?_
      refine r_iconst (v := 1) hC dL_restore_13 rfl ?_
      exact r_iret hf hC (by decide) (by decide) dL_restore_14
    | n + 3, he, hf => have hf : (none : Option (Int32 × Mem)) = some (r, M') := hf; cases hf
  · rw [hx] at hf
    have hf : some ((0 : Int32), mw M1 43 0 x) = some (r, M') := hf
    refine r_i2l hC dL_restore_7 ?_
    refine r_last hC hz (z_1 hZ 43 (by decide) rfl) (inb_vp (by decide)) dL_restore_8 ?_
    refine r_goto 18 hC dL_restore_9 (by decide) ?_
    refine r_iconst (v := 0) hC dL_restore_18 rfl ?_
    exact r_iret hf hC (by decide) (by decide) dL_restore_19
set_option maxRecDepth 20000 in
theorem c_L_restore {l : Launch} (hl : l.stackTraces = false) {G : GG} {Z : ZZ} (hz : ZOk G Z) (hZ : ZM Z) (v1 : Int32) (M : Mem) (r : Int32) (M' : Mem) (hf : f_L_restore v1 M = some (r, M')) : CW (QcI G Z r M') l G Z yL_restore cL_restore 4 (some .int) [(0, 9, 12, 28), (0, 9, 15, 15)] 8 2 12 [.ref (Z.1 0), .int v1, .ref (Z.1 43)] M :=
  CW.of [(0, .ref (Z.1 0)), (1, .int v1), (2, .ref (Z.1 43))] hl (by decide +kernel) (Nat.le_of_ble_eq_true rfl) rfl (fun _ hC ht => w_L_restore hC ht hz hZ v1 M hf)
