/-! A CONSTRUCTOR'S CONTRACT, AND ROWS THAT MAKE -/
def QcN (post : ZZ → Mem → Prop) (G : GG) : Array Value → State → Outcome → State → Prop := va_Qv (fun u : ZZ × Mem => post u.1 u.2) (fun u t => Wp G u.1 u.2 t) G.2.2.1
def CNw (post : ZZ → Mem → Prop) (l : Launch) (G : GG) (Z : ZZ) (y : MethodName) (cc : ByteArray) (nL d mc ms : Nat) (As : List Value) (M : Mem) : Prop :=
  Met l y [.code y cc nL none] (rmd d mc ms) (va_Pc As (Wd G Z M)) (QcN post G) mc ms G.2.2.1
theorem CNw.of {post : ZZ → Mem → Prop} {l : Launch} {G : GG} {Z : ZZ} {y : MethodName} {cc : ByteArray} {nL d mc ms : Nat} {As : List Value} {M : Mem} (L0 : List (Nat × Value)) (hl : l.stackTraces = false) (hy : plainName y.cls = true) (hin : y.name = "<init>") (hlen : (lg_sl As).length ≤ nL) (hL : lv_args 0 As = L0)
    (body : ∀ X : XX, Cx X G y.cls cc none d mc ms nL → (xM X).name = "<init>" → V X G Z M 0 0 (QN X G (QcN post G) mc ms) 0 L0 []) : CNw post l G Z y cc nL d mc ms As M := by
  refine Met.ofW (cc := cc) (maxL := nL) (ret := none) hy rfl ?_
  intro p e s m args below meth c s₁ B hml hv
  obtain ⟨rfl, hP, hK, hA, hsg, htw⟩ := hv
  have hown : s.vm.findClass y.cls = some m.cls := findClass_of_methodNamed B.named
  have hl0 := lv_entry As (n := nL) hlen
  rw [hL] at hl0
  rw [lg_entry_eq]
  exact body (p, l, e, rmd d mc ms, s, m, As.toArray, below, meth, c, nL) ⟨⟨B.exec, B.bytes, B.returns, hml, rfl⟩, hown, htw, B.notSynchronized, hK, hA, hsg, hl, rfl, Nat.le_refl _, rfl, rfl⟩ ((name_of_methodNamed B.named B.method).1.trans hin) s.heap [] _ hP va_S.rf hl0
def CsI (own : String) (idx : Nat) (y : MethodName) (cy : ByteArray) (ny : Nat) : Prop :=
  (GoodIn TW [.code y cy ny none] ∧ Cond.initialized y.cls ∈ TW ∧ Cond.methodLink own idx y ∈ TW ∧ Cond.instanceMethod y ∈ TW) ∧ y.name = "<init>" ∧ (y.cls ≠ "java/lang/invoke/MethodHandle" ∧ y.cls ≠ "java/lang/invoke/VarHandle" ∧ (parseMethodDescriptor y.desc).map (fun d => d.parameters.length) = some 0)
def CsIN (own : String) (idx : Nat) (y : MethodName) (cy : ByteArray) (ny : Nat) : Prop :=
  (GoodIn TW [.code y cy ny none] ∧ Cond.initialized y.cls ∈ TW ∧ Cond.methodLinkNest own idx y "HandSpans" ∈ TW ∧ Cond.instanceMethod y ∈ TW) ∧ y.name = "<init>" ∧ (y.cls ≠ "java/lang/invoke/MethodHandle" ∧ y.cls ≠ "java/lang/invoke/VarHandle" ∧ (parseMethodDescriptor y.desc).map (fun d => d.parameters.length) = some 0)
theorem good1 {w : Cond} (h : w ∈ TW) (o : (w.onTables && w.keeps) = true) : GoodIn TW [w] := fun v hv => by
  rcases List.mem_singleton.mp hv with rfl
  exact ⟨h, Or.inl o⟩
theorem w_oi : Cond.code Lib.objectInit ⟨#[0xb1]⟩ 1 none ∈ TW := tw_in (List.mem_of_getElem? (i := 51) (by decide +kernel)) rfl
theorem w_oin : Cond.instanceMethod Lib.objectInit ∈ TW := tw_in (List.mem_of_getElem? (i := 50) (by decide +kernel)) rfl
section RG
variable {X : XX} {G : GG} {Z : ZZ} {M : Mem} {k n : Nat} {Q : State → Prop} {pc : Nat} {L : List (Nat × Value)} {rest : List Value} {own : String} {cc : ByteArray} {ret : Option FieldType} {d mc ms' nL : Nat}
theorem r_vretN {post : ZZ → Mem → Prop} (hp : post Z M) (hC : Cx X G own cc ret d mc ms' nL) (hk : k ≤ mc) (hm : n ≤ ms') (hdg : decode cc pc = .ok (.return_, 1)) (he : ret = none := by rfl) : V X G Z M k n (QN X G (QcN post G) mc ms') pc L [] := by
  obtain ⟨⟨hx, hb, hr, hml, hn⟩, hown, htw, hlk, hK, hA, hsg, hst, hR⟩ := hC
  intro H locs ls hP hS hl
  refine W.widen hk hm ?_
  exact W.vret hx hb (by rw [hr, he]) (fun t ht hW => ⟨⟨(Z, M), rfl, hp, by show va_P _ _ _ t.heap; rw [ht]; exact hP⟩, hS.F ht⟩) hS.2.2 hdg hlk
theorem r_objInit {idx a : Nat} (hw : Cond.methodLink own idx Lib.objectInit ∈ TW) (hC : Cx X G own cc ret d mc ms' nL) (hd : 1 ≤ d) (hdg : decode cc pc = .ok (.invokespecial idx, 3)) (kk : V X G Z M k n Q (pc + 3) L []) : V X G Z M k n Q pc L [.ref a] := by
  obtain ⟨⟨hx, hb, hr, hml, hn⟩, hown, htw, hlk, hK, hA, hsg, hst, hR⟩ := hC
  intro H locs ls hP hS hl
  obtain ⟨hR1, hR2, hR3, hR4⟩ := hR
  have hr8 := lv_room (m := xm X) (pc := pc) (ls := ls) (rest := [.ref a]) (st := []) (by decide)
  refine W.objInit (rest := []) (a := a) hx hb hown (htw.use _ _ hw) (htw.use _ _ w_oin) (htw.use _ _ w_oi) rfl (by show ls.size = _; rw [hl.1, hn, hml]) rfl hdg (by rw [hR1]; exact hd) (by omega) ?_
  exact kk H locs ls hP hS hl
theorem r_callN {post : ZZ → Mem → Prop} {y : MethodName} {cy : ByteArray} {ny dy mcy msy idx a : Nat} (C : CNw post (xl X) G Z y cy ny dy mcy msy [.ref a] M) (cs : CsI own idx y cy ny) (hC : Cx X G own cc ret d mc ms' nL) (hd : dy + 1 ≤ d) (hlo : 8 + (ny + 11) + 40 * dy ≤ 40 * d) (hrest : (rest.map fun v => v.category).sum ≤ 8) (hk : k + mcy ≤ mc) (hm : n + msy ≤ ms') (hdg : decode cc pc = .ok (.invokespecial idx, 3))
    (kk : ∀ (Z' : ZZ) (M' : Mem), post Z' M' → V X G Z' M' (k + mcy) (n + msy) Q (pc + 3) L rest) : V X G Z M k n Q pc L (.ref a :: rest) := by
  have hC0 := hC
  obtain ⟨⟨hx, hb, hr, hml, hn'⟩, hown, htw, hlk, hK, hA, hsg, hst', hR⟩ := hC
  obtain ⟨⟨g1, g2, g3, g4⟩, g5, g6⟩ := cs
  intro H locs ls hP hS hl
  obtain ⟨hR1, hR2, hR3, hR4⟩ := hR
  have cw := cwI (R := xR X) (rm := rmd dy mcy msy) (mc := mcy) (ms := msy) 0 (htw.use (xa X)) g1 rfl rfl rfl (htw.use _ _ g2) (htw.use _ _ g3) (htw.use _ _ g4) g5 g6 ⟨by rw [hR1]; exact hd, Nat.le_trans hlo hR2⟩
  have run := va_runI (own := own) (g := F0 (xm X) pc ls (.ref a :: rest)) (H := H) (locs := locs) (cells := k) (slots := n) (e := xe X) (below := xb X) (meth := xM X) (As := []) ⟨hx, hb, hml, hown, htw.use (xa X)⟩ C cw ⟨Wd.blind _, fun U hU hW => ⟨rfl, Wd.mk hC0 hP hS hU hW⟩⟩ rfl rfl (by show ls.size = nL; rw [hl.1, hn']) rfl (lv_room hrest) hdg ⟨by rw [hR3]; exact hk, by rw [hR4]; exact hm⟩
  refine va_callv run hS (fun q _ h => h) (fun q h => h) (fun u t H1 locs1 ht hvm hp hB _ _ hS1 => ?_)
  subst ht
  exact kk u.1 u.2 hp t.heap locs1 ls hB hS1 hl
theorem r_callNN {post : ZZ → Mem → Prop} {y : MethodName} {cy : ByteArray} {ny dy mcy msy idx a : Nat} (C : CNw post (xl X) G Z y cy ny dy mcy msy [.ref a] M) (cs : CsIN own idx y cy ny) (hC : Cx X G own cc ret d mc ms' nL) (hd : dy + 1 ≤ d) (hlo : 8 + (ny + 11) + 40 * dy ≤ 40 * d) (hrest : (rest.map fun v => v.category).sum ≤ 8) (hk : k + mcy ≤ mc) (hm : n + msy ≤ ms') (hdg : decode cc pc = .ok (.invokespecial idx, 3))
    (kk : ∀ (Z' : ZZ) (M' : Mem), post Z' M' → V X G Z' M' (k + mcy) (n + msy) Q (pc + 3) L rest) : V X G Z M k n Q pc L (.ref a :: rest) := by
  have hC0 := hC
  obtain ⟨⟨hx, hb, hr, hml, hn'⟩, hown, htw, hlk, hK, hA, hsg, hst', hR⟩ := hC
  obtain ⟨⟨g1, g2, g3, g4⟩, g5, g6⟩ := cs
  intro H locs ls hP hS hl
  obtain ⟨hR1, hR2, hR3, hR4⟩ := hR
  have cw := va_cnB (R := xR X) (rm := rmd dy mcy msy) (mc := mcy) (ms := msy) 0 (htw.use (xa X)) g1 rfl rfl rfl (va_Nw.of rfl (htw.use (xa X) _ g3)) (htw.use _ _ g2) g6 ⟨by rw [hR1]; exact hd, Nat.le_trans hlo hR2⟩
  have run := va_runIN (own := own) (g := F0 (xm X) pc ls (.ref a :: rest)) (H := H) (locs := locs) (cells := k) (slots := n) (e := xe X) (below := xb X) (meth := xM X) (As := []) ⟨hx, hb, hml, hown, htw.use (xa X)⟩ C ⟨cw, g5, htw.use _ _ g4⟩ ⟨Wd.blind _, fun U hU hW => ⟨rfl, Wd.mk hC0 hP hS hU hW⟩⟩ rfl rfl (by show ls.size = nL; rw [hl.1, hn']) rfl (lv_room hrest) hdg ⟨by rw [hR3]; exact hk, by rw [hR4]; exact hm⟩
  refine va_callv run hS (fun q _ h => h) (fun q h => h) (fun u t H1 locs1 ht hvm hp hB _ _ hS1 => ?_)
  subst ht
  exact kk u.1 u.2 hp t.heap locs1 ls hB hS1 hl
theorem r_new {C : String} {T : u_T} {N ci idx i : Nat} {F : Nat → Option (Option Nat)} (hin : ∀ w ∈ u_ws C T N, w ∈ TW) (ty : Nat → FieldType) (hty : ∀ k, k < N → parseFieldDescriptor (T k).2.2.1 = some (ty k)) (hc : vwCl[ci]? = some (C, T, N)) (w1 : Cond.classLink own idx C ∈ TW) (w2 : Cond.instantiable C N ∈ TW) (w3 : Cond.initialized C ∈ TW) (hF : ∀ j, j < N → (F j = none ∧ defaultValue (ty j) = .int 0) ∨ (F j = some none ∧ defaultValue (ty j) = .null))
    (hC : Cx X G own cc ret d mc ms' nL) (hz : ZK G Z) (hi : i ∉ Z.2.2) (hk : k + 1 ≤ mc) (hn : n + N ≤ ms') (hdg : decode cc pc = .ok (.new idx, 3)) (kk : ∀ a, ZK G (zadd Z i a (.inl (ci, N, F))) → V X G (zadd Z i a (.inl (ci, N, F))) (ms M i (fun _ => 0)) (k + 1) (n + N) Q (pc + 3) L (.ref a :: rest)) : V X G Z M k n Q pc L rest := by
  obtain ⟨⟨hx, hb, hr, hml, hn'⟩, hown, htw, hlk, hK, hA, hsg, hst', hR⟩ := hC
  intro H locs ls hP hS hl
  obtain ⟨hR1, hR2, hR3, hR4⟩ := hR
  refine va_new (fs := (List.range N).map (fv Z.1 (fun _ => 0) F)) (Ts := TW) hx hb (htw.use _) hin ty hty hown (htw.use _ _ w1) (htw.use _ _ w2) (htw.use _ _ w3) hK hP (wv_D hz.1 M) hS hA hc (fun j hj => ?_) (by rw [hR3]; exact hk) (by rw [hR4]; exact hn) hdg (fun q H1 hP1 hD1 hS1 => ?_)
  · unfold vp_V
    rw [List.getD_eq_getElem?_getD, List.getElem?_map, List.getElem?_range hj]
    show _ = fv Z.1 (fun _ => 0) F j
    unfold fv
    rcases hF j hj with ⟨h1, h2⟩ | ⟨h1, h2⟩
    · rw [h1, h2]
    · rw [h1, h2]
  · have hno : ∀ r, ¬ rfs (.inl (ci, N, F)) r := fun r ⟨k, hk, h⟩ => by
      rcases hF k hk with ⟨h1, _⟩ | ⟨h1, _⟩
      · rw [h1] at h; cases h
      · rw [h1] at h; cases h
    have g := grow (D := .inl (ci, N, F)) (f := fun _ => 0) hz hi hP1 hD1 (fun h => (Sm.rf (m := fun _ => 0) (D := .inl (ci, N, F)) (fun r hr => (hno r hr).elim)).at (ad := Z.1) h) (fun r hr => (hno r hr).elim)
    exact kk q g.1 H1 locs ls g.2 hS1 hl
theorem r_newa {atype : ArrayType} {ty : FieldType} {t N i : Nat} {v : Int32} (w1 : Cond.arrayClass (newarray.typeOf atype) ∈ TW) (hty : newarray.typeOf atype = ty) (hdv : defaultValue ty = .int 0) (ht : (tys G)[t]? = some (G.2.1 t, ty)) (hra : ∀ (U : State) (cA : ClassId), va_RA U cA ty → U.vm.findClass ("[" ++ ty.toString) = some cA) (hv : ¬ v < 0) (hN : v.toNatClampNeg = N) (hby : N * componentBytes ty ≤ 536870912)
    (hC : Cx X G own cc ret d mc ms' nL) (hz : ZK G Z) (hi : i ∉ Z.2.2) (hk : k + 1 ≤ mc) (hn : n + N ≤ ms') (hdg : decode cc pc = .ok (.newarray atype, 2)) (kk : ∀ a, ZK G (zadd Z i a (dA t N)) → V X G (zadd Z i a (dA t N)) (ms M i (fun _ => 0)) (k + 1) (n + N) Q (pc + 2) L (.ref a :: rest)) : V X G Z M k n Q pc L (.int v :: rest) := by
  obtain ⟨⟨hx, hb, hr, hml, hn'⟩, hown, htw, hlk, hK, hA, hsg, hst', hR⟩ := hC
  intro H locs ls hP hS hl
  obtain ⟨hR1, hR2, hR3, hR4⟩ := hR
  refine va_newa (a0 := (N, .inl (fun _ => 0))) hx hb (htw.use _ _ w1) hty hK hP (wv_D hz.1 M) hS hA (fun cA => by rw [hdv]; rfl) hv hN hby (by rw [hR3]; exact hk) (by rw [hR4]; exact hn) hdg (fun q cA H1 hK1 hP1 hD1 hS1 => ?_)
  have e1 := hra _ _ (hK1.2 (tys G).length (cA, ty) (by rw [List.getElem?_append_right (Nat.le_refl _), Nat.sub_self]; rfl)).2
  have e2 := hra _ _ (hK.2 t _ ht).2
  have ec : cA = G.2.1 t := Option.some.inj (e1.symm.trans e2)
  subst ec
  have g := grow (D := dA t N) (f := fun _ => 0) hz hi hP1 hD1 (fun h => h) (fun r hr => False.elim hr)
  exact kk q g.1 H1 locs ls g.2 hS1 hl
theorem r_anewa {C : String} {t N i idx : Nat} {v : Int32} (w1 : Cond.classLink own idx C ∈ TW) (w2 : Cond.arrayOver (.object C) ∈ TW) (ht : (tys G)[t]? = some (G.2.1 t, .object C)) (hv : ¬ v < 0) (hN : v.toNatClampNeg = N) (hby : N * 4 ≤ 536870912)
    (hC : Cx X G own cc ret d mc ms' nL) (hz : ZK G Z) (hi : i ∉ Z.2.2) (hk : k + 1 ≤ mc) (hn : n + N ≤ ms') (hdg : decode cc pc = .ok (.anewarray idx, 3)) (kk : ∀ a, ZK G (zadd Z i a (.inr (.inr (.inl (t, N, fun _ => none))))) → V X G (zadd Z i a (.inr (.inr (.inl (t, N, fun _ => none))))) (ms M i (fun _ => 0)) (k + 1) (n + N) Q (pc + 3) L (.ref a :: rest)) : V X G Z M k n Q pc L (.int v :: rest) := by
  obtain ⟨⟨hx, hb, hr, hml, hn'⟩, hown, htw, hlk, hK, hA, hsg, hst', hR⟩ := hC
  intro H locs ls hP hS hl
  obtain ⟨hR1, hR2, hR3, hR4⟩ := hR
  refine va_newq hx hb hown (htw.use _ _ w1) (va_AO.of (htw.use #[] _ w2)) hK hP (wv_D hz.1 M) hS hA hv hN hby (by rw [hR3]; exact hk) (by rw [hR4]; exact hn) hdg (fun q cA H1 hK1 hP1 hD1 hS1 => ?_)
  obtain ⟨_, _, _, _, _, e1⟩ := (hK1.2 (tys G).length (cA, .object C) (by rw [List.getElem?_append_right (Nat.le_refl _), Nat.sub_self]; rfl)).2
  obtain ⟨_, _, _, _, _, e2⟩ := (hK.2 t _ ht).2
  have ec : cA = G.2.1 t := Option.some.inj (e1.symm.trans e2)
  subst ec
  have g := grow (D := .inr (.inr (.inl (t, N, fun _ => none)))) (f := fun _ => 0) hz hi hP1 hD1 (fun h => h) (fun r ⟨_, _, hr⟩ => by cases hr)
  exact kk q g.1 H1 locs ls g.2 hS1 hl
theorem r_putF {C : String} {T : u_T} {N ci idx i j a b : Nat} {F : Nat → Option (Option Nat)} {ty : FieldType} (hin : ∀ w ∈ u_ws C T N, w ∈ TW) (ty0 : Nat → FieldType) (hty : ∀ k, k < N → parseFieldDescriptor (T k).2.2.1 = some (ty0 k)) (hnm : ∀ a, a < N → ∀ b, b < N → a ≠ b → (T a).2.1 ≠ (T b).2.1) (hc : vwCl[ci]? = some (C, T, N)) (kf : Nat) (hk : kf < N) (hown2 : (T kf).1 = C) (hown3 : (T kf).1 = own) (hfin : (T kf).2.2.2 = true) (hd : parseFieldDescriptor (T kf).2.2.1 = some ty) (hr0 : ∀ a : Nat, narrow ty (.ref a) = .ref a ∧ fits ty (.ref a) = true) (hw : Cond.fieldLink own idx C (T kf).2.1 (T kf).2.2.1 ∈ TW)
    (hC : Cx X G own cc ret d mc ms' nL) (hI : (xM X).name = "<init>") (hz : ZK G Z) (hi : At Z i (.inl (ci, N, F))) (ha : Z.1 i = a) (hj : j ∈ Z.2.2) (hbj : Z.1 j = b) (hdg : decode cc pc = .ok (.putfield idx, 3)) (kk : ZK G (zput Z i (.inl (ci, N, va_up F kf (some (some j))))) → V X G (zput Z i (.inl (ci, N, va_up F kf (some (some j))))) M k n Q (pc + 3) L rest) : V X G Z M k n Q pc L (.ref b :: .ref a :: rest) := by
  obtain ⟨⟨hx, hb, hr, hml, hn'⟩, hown, htw, hlk, hK, hA, hsg, hst', hR⟩ := hC
  subst ha hbj
  intro H locs ls hP hS hl
  obtain ⟨q, hq0, hq⟩ := wv_get (G := G) (M := M) hi
  have hz2 : ZK G (zput Z i (.inl (ci, N, va_up F kf (some (some j))))) := hz.put (fun r ⟨k, hk', h⟩ => by
    unfold va_up at h
    by_cases e : k = kf
    · rw [if_pos e] at h
      cases h
      exact hj
    · rw [if_neg e] at h
      have := hz.2 i hi.1 r
      rw [hi.2] at this
      exact this ⟨k, hk', h⟩)
  refine va_putF (Ts := TW) hx hb (htw.use _) hin ty0 hty hnm hown hK hP (wv_D hz.1 M) hS q hq hc kf hk (htw.use _ _ hw) (fun x h => by rw [hown2] at h; exact h) hfin hI hown3 hd (hr0 _).1 (hr0 _).2 (by simp; exact hk) hdg (fun H1 locs1 hP1 _ hS1 => kk hz2 H1 locs1 ls ?_ hS1 hl)
  have e : (((List.range N).map (fv Z.1 (M i) F)).set kf (.ref (Z.1 j))) = (List.range N).map (fv Z.1 (M i) (va_up F kf (some (some j)))) := by
    have := map_set (fv Z.1 (M i) F) (fv Z.1 (M i) (va_up F kf (some (some j)))) (List.range N) kf (List.getElem?_range hk) List.nodup_range (fun j' hj' => by simp [fv, va_up, hj'])
    rw [← this]
    simp [fv, va_up]
  rw [e] at hP1
  have e2 := wv_put (M := M) hz.1 hq0 (.inl (ci, N, va_up F kf (some (some j))))
  rw [← e2]
  exact hP1
theorem r_aast {t N i j ci N2 a b : Nat} {F : Nat → Option Nat} {F2 : Nat → Option (Option Nat)} {r : vw_C} {x : Int32} (hC : Cx X G own cc ret d mc ms' nL) (hz : ZK G Z) (hi : At Z i (.inr (.inr (.inl (t, N, F))))) (ht : (tys G)[t]? = some (G.2.1 t, .object r.1)) (hj : At Z j (.inl (ci, N2, F2))) (hc : vwCl[ci]? = some r) (hin : vp_in x N) (ha : Z.1 i = a) (hbj : Z.1 j = b) (hdg : decode cc pc = .ok (.aastore, 1)) (kk : ZK G (zput Z i (.inr (.inr (.inl (t, N, va_up F x.toNatClampNeg (some j)))))) → V X G (zput Z i (.inr (.inr (.inl (t, N, va_up F x.toNatClampNeg (some j)))))) M k n Q (pc + 1) L rest) : V X G Z M k n Q pc L (.ref b :: .int x :: .ref a :: rest) := by
  obtain ⟨⟨hx, hb, hr, hml, hn'⟩, hown, htw, hlk, hK, hA, hsg, hst', hR⟩ := hC
  subst ha hbj
  intro H locs ls hP hS hl
  obtain ⟨q, hq0, hq⟩ := wv_get (G := G) (M := M) hi
  obtain ⟨q2, -, hq2⟩ := wv_get (G := G) (M := M) hj
  have hz2 : ZK G (zput Z i (.inr (.inr (.inl (t, N, va_up F x.toNatClampNeg (some j)))))) := hz.put (fun r ⟨k, hk', h⟩ => by
    unfold va_up at h
    by_cases e : k = x.toNatClampNeg
    · rw [if_pos e] at h
      cases h
      exact hj.1
    · rw [if_neg e] at h
      have := hz.2 i hi.1 r
      rw [hi.2] at this
      exact this ⟨k, hk', h⟩)
  refine va_astq hx hb hK hP (wv_D hz.1 M) hS q t q2 ci hq ht hq2 hc hin hdg (fun H1 locs1 hP1 _ hS1 => kk hz2 H1 locs1 ls ?_ hS1 hl)
  have e : va_up (fun k => (F k).map Z.1) x.toNatClampNeg (some (Z.1 j)) = fun k => (va_up F x.toNatClampNeg (some j) k).map Z.1 := by
    funext k
    unfold va_up
    by_cases e : k = x.toNatClampNeg
    · rw [if_pos e, if_pos e]; rfl
    · rw [if_neg e, if_neg e]
  rw [e] at hP1
  have e2 := wv_put (M := M) hz.1 hq0 (.inr (.inr (.inl (t, N, va_up F x.toNatClampNeg (some j)))))
  rw [← e2]
  exact hP1
/-- a cell of the world seen in another way -/
theorem r_see {i : Nat} {D D' : Dsc} (hi : At Z i D) (hs : Sm Z.1 Z.1 (M i) (M i) D D') (kk : V X G (zput Z i D') M k n Q pc L rest) : V X G Z M k n Q pc L rest := by
  intro H locs ls hP hS hl
  refine kk H locs ls (wvP.mpr (fun j hj => ?_)) hS hl
  have h := wvP.mp hP j hj
  by_cases e : j = i
  · rw [e, zput_21]
    rw [e, hi.2] at h
    exact hs.at h
  · rw [zput_2 e]
    exact h
end RG
