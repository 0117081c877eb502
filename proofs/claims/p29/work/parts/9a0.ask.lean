/-! ASKING: a call that is tried, its answer, the object behind it -/
/-- what a try may write: the object, the law's own row -/
def CO (d : Nat) : Prop := CI d ∨ d = 43
def AkG (S : Nat → Prop) (f : Mem → Option (Int32 × Mem)) (D : Ds) (v : Int32) (D' : Ds) : Prop := DOk D' ∧ ∀ M, CRel M D → Tot (f M) (fun x => x.1 = v ∧ CRel x.2 D' ∧ Off S M x.2)
abbrev Ak : (Mem → Option (Int32 × Mem)) → Ds → Int32 → Ds → Prop := AkG CI
abbrev AkO : (Mem → Option (Int32 × Mem)) → Ds → Int32 → Ds → Prop := AkG CO
theorem AkG.o {S : Nat → Prop} {f : Mem → Option (Int32 × Mem)} {D D' : Ds} {v : Int32} (a : AkG S f D v D') (hS : ∀ d, S d → CO d := by intro d h; first | exact h | exact Or.inl h) : AkO f D v D' := ⟨a.1, fun M hM => (a.2 M hM).mono (fun x hx => ⟨hx.1, hx.2.1, hx.2.2.wk hS⟩)⟩
abbrev St1 (M0 : Mem) (D : Ds) (M : Mem) : Prop := CRel M D ∧ Off CO M0 M
theorem stp {S : Nat → Prop} {β : Type} {f : Mem → Option (Int32 × Mem)} {D D' : Ds} {v : Int32} (a : AkG S f D v D') {M0 M : Mem} (h : St1 M0 D M) {K : Int32 → Mem → Option β} {Q : β → Prop} (k : ∀ M', St1 M0 D' M' → Tot (K v M') Q) (hS : ∀ d, S d → CO d := by intro d h; first | exact h | exact Or.inl h) : Tot (ob (f M) K) Q := by
  have a := a.o hS
  refine Tot.ob ((a.2 M h.1).mono ?_)
  intro ⟨x, M1⟩ ⟨e, c, o⟩
  have e : x = v := e
  rw [e]
  exact k M1 ⟨c, h.2.tr o⟩
theorem ak_of {f : Mem → Option (Int32 × Mem)} {D D' : Ds} {v : Int32} (hD : DOk D') (h : ∀ M0 M, St1 M0 D M → Tot (f M) (fun x => x.1 = v ∧ St1 M0 D' x.2)) : AkO f D v D' := ⟨hD, fun M hM => h M M ⟨hM, Off.rf⟩⟩
theorem ak_end {M0 M : Mem} {D : Ds} {v : Int32} (h : St1 M0 D M) : Tot (some (v, M)) (fun x => x.1 = v ∧ St1 M0 D x.2) := Tot.mk ⟨rfl, h⟩
theorem ak_ok {h : Nat → Option Int32} {f : Mem → Option (Except Nat Int32 × Mem)} {D D' : Ds} {v : Int32} (k : Cl f D (.ok v, D')) : Ak (fun M => wrt h (f M)) D v D' := ⟨k.1, fun M hM => by
  obtain ⟨⟨x, M1⟩, e, e1, c, o⟩ := k.2 M hM
  have e1 : x = .ok v := e1
  show Tot (wrt h (f M)) _
  rw [e, e1]
  exact Tot.mk ⟨rfl, c, o⟩⟩
theorem ak_er {h : Nat → Option Int32} {f : Mem → Option (Except Nat Int32 × Mem)} {D D' : Ds} {e0 : Nat} {r : Int32} (k : Cl f D (.error e0, D')) (he : h e0 = some r) : Ak (fun M => wrt h (f M)) D r D' := ⟨k.1, fun M hM => by
  obtain ⟨⟨x, M1⟩, e, e1, c, o⟩ := k.2 M hM
  have e1 : x = .error e0 := e1
  have g : wrt h (f M) = some (r, M1) := by
    rw [e, e1]
    show (match h e0 with | none => none | some r => some (r, M1)) = _
    rw [he]
  show Tot (wrt h (f M)) _
  rw [g]
  exact Tot.mk ⟨rfl, c, o⟩⟩
theorem ak_d {f : Mem → Option (Int32 × Mem)} {D D' : Ds} {v : Int32} (k : ClD f D (v, D')) : Ak f D v D' := k
theorem CRel.same {M M' : Mem} {D : Ds} (h : CRel M D) (e : ∀ d, CI d → M' d = M d) : CRel M' D :=
  h.gen (fun d hd => e d (by unfold CI; omega)) (h.2.2.2.2.same (fun d h1 h2 => e d (by unfold CI; omega)))
/-! TWO OBJECTS -/
abbrev S2 (D E : Ds) (M : Mem) : Prop := CRel M D ∧ CRel (sw M) E
theorem sgm_hi {d : Nat} (h : CI d) : sgm d = d + 400 := by
  unfold CI at h
  unfold sgm
  rw [if_pos (by omega)]
theorem stp_p {S : Nat → Prop} {β : Type} {f : Mem → Option (Int32 × Mem)} {D D' E : Ds} {v : Int32} (a : AkG S f D v D') {M : Mem} (h : S2 D E M) {K : Int32 → Mem → Option β} {Q : β → Prop} (k : ∀ M', S2 D' E M' → Tot (K v M') Q) (hS : ∀ d, S d → CO d := by intro d h; first | exact h | exact Or.inl h) : Tot (ob (f M) K) Q := by
  have a := a.o hS
  refine Tot.ob ((a.2 M h.1).mono ?_)
  intro ⟨x, M1⟩ ⟨e, c, o⟩
  have e : x = v := e
  have o : Off CO M M1 := o
  rw [e]
  refine k M1 ⟨c, h.2.same (fun d hd => ?_)⟩
  show M1 (sgm d) = M (sgm d)
  rw [sgm_hi hd]
  exact o _ (by unfold CO; unfold CI at hd ⊢; omega)
theorem stp_q {S : Nat → Prop} {β : Type} {f : Mem → Option (Int32 × Mem)} {D E E' : Ds} {v : Int32} (a : AkG S f E v E') {M : Mem} (h : S2 D E M) {K : Int32 → Mem → Option β} {Q : β → Prop} (k : ∀ M', S2 D E' (sw M') → Tot (K v M') Q) (hS : ∀ d, S d → CO d := by intro d h; first | exact h | exact Or.inl h) : Tot (ob (f (sw M)) K) Q := by
  have a := a.o hS
  refine Tot.ob ((a.2 (sw M) h.2).mono ?_)
  intro ⟨x, M1⟩ ⟨e, c, o⟩
  have e : x = v := e
  have o : Off CO (sw M) M1 := o
  rw [e]
  refine k M1 ⟨h.1.same (fun d hd => ?_), by rw [sw2]; exact c⟩
  show M1 (sgm d) = M d
  have g : M1 (sgm d) = sw M (sgm d) := o _ (by rw [sgm_hi hd]; unfold CO; unfold CI at hd ⊢; omega)
  rw [g]
  show M (sgm (sgm d)) = M d
  rw [sgm2]
/-! THE SAME OBJECT, as far as it can be seen -/
def Peq (P P' : Pg) : Prop := gS P' = gS P ∧ gB P' = gB P ∧ (∀ j, j < 6 → gE P' j = gE P j) ∧ ∀ s b, s < gS P → b < gB P → gC P' s b = gC P s b
theorem Peq.rf {P : Pg} : Peq P P := ⟨rfl, rfl, fun _ _ => rfl, fun _ _ _ _ => rfl⟩
def Deq (D D' : Ds) : Prop := (dN D' = dN D ∧ ∀ i, i < dN D → dT D' i = dT D i) ∧ Peq (dP D) (dP D') ∧ (dH D' = dH D ∧ ∀ j, j < dH D → Peq (dQ D j) (dQ D' j)) ∧ ∀ s, s < 2 → dF D' s = dF D s ∧ (dF D s = true → Peq (dS D s) (dS D' s))
theorem Deq.rf {D : Ds} : Deq D D := ⟨⟨rfl, fun _ _ => rfl⟩, Peq.rf, ⟨rfl, fun _ _ => Peq.rf⟩, fun _ _ => ⟨rfl, fun _ => Peq.rf⟩⟩
theorem StRep.peq {M : Mem} {k : Nat} {P P' : Pg} (h : StRep M k P) (e : Peq P P') : StRep M k P' := h.to e.1 e.2.1 e.2.2.1 e.2.2.2
theorem CRel.deq {M : Mem} {D D' : Ds} (h : CRel M D) (e : Deq D D') : CRel M D' := by
  obtain ⟨⟨a1, a2⟩, b, ⟨nx, c1, c2, c3, c4⟩, d, z⟩ := h
  obtain ⟨⟨e1, e2⟩, e3, ⟨e4, e5⟩, e6⟩ := e
  refine ⟨⟨by rw [e1]; exact a1, fun i hi => by rw [e1] at hi; rw [e2 i hi]; exact a2 i hi⟩, b.peq e3, ⟨nx, c1, c2, by rw [e4]; exact c3, fun j hj => ?_⟩, fun s hs => ⟨by rw [(e6 s hs).1]; exact (d s hs).1, fun hf => ?_⟩, z⟩
  · rw [e4] at hj ⊢
    exact (c4 j hj).peq (e5 j hj)
  · have hf' : dF D s = true := by rw [← (e6 s hs).1]; exact hf
    exact ((d s hs).2 hf').peq ((e6 s hs).2 hf')
theorem St1.deq {M0 M : Mem} {D D' : Ds} (h : St1 M0 D M) (e : Deq D D') : St1 M0 D' M := ⟨h.1.deq e, h.2⟩
