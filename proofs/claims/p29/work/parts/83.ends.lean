section RX
variable {X : XX} {G : GG} {Z : ZZ} {M M' : Mem} {k n : Nat} {pc : Nat} {L : List (Nat × Value)} {own : String} {cc : ByteArray} {ret : Option FieldType} {d mc ms nL : Nat}
theorem r_iret {x r : Int32} (hf : some (x, M) = some (r, M')) (hC : Cx X G own cc ret d mc ms nL) (hk : k ≤ mc) (hm : n ≤ ms) (hdg : decode cc pc = .ok (.ireturn, 1)) (he : ret = some .int := by rfl) : V X G Z M k n (QN X G (QcI G Z r M') mc ms) pc L [.int x] := by
  cases hf
  obtain ⟨⟨hx, hb, hr, hml, hn⟩, hown, htw, hlk, hK, hA, hsg, hst, hR⟩ := hC
  intro H locs ls hP hS hl
  refine W.widen hk hm ?_
  exact W.iret hx hb (by rw [hr, he]) (fun t ht hW => ⟨⟨x, (), rfl, rfl, by show va_P _ _ _ t.heap; rw [ht]; exact hP⟩, hS.F ht⟩) hS.2.2 hdg hlk
theorem r_zret {x r : Int32} (hf : some (x, M) = some (r, M')) (hC : Cx X G own cc ret d mc ms nL) {ty : FieldType} (he : ret = some ty) (hnr : narrow ty (.int x) = .int x) (hk : k ≤ mc) (hm : n ≤ ms) (hdg : decode cc pc = .ok (.ireturn, 1)) : V X G Z M k n (QN X G (QcI G Z r M') mc ms) pc L [.int x] := by
  cases hf
  obtain ⟨⟨hx, hb, hr, hml, hn⟩, hown, htw, hlk, hK, hA, hsg, hst, hR⟩ := hC
  intro H locs ls hP hS hl
  refine W.widen hk hm ?_
  exact W.zret hx hb (by rw [hr, he]) hnr (fun t ht hW => ⟨⟨x, (), rfl, rfl, by show va_P _ _ _ t.heap; rw [ht]; exact hP⟩, hS.F ht⟩) hS.2.2 hdg hlk
theorem r_lret {x r : Int64} (hf : some (x, M) = some (r, M')) (hC : Cx X G own cc ret d mc ms nL) (hk : k ≤ mc) (hm : n ≤ ms) (hdg : decode cc pc = .ok (.lreturn, 1)) (he : ret = some .long := by rfl) : V X G Z M k n (QN X G (QcL G Z r M') mc ms) pc L [.long x] := by
  cases hf
  obtain ⟨⟨hx, hb, hr, hml, hn⟩, hown, htw, hlk, hK, hA, hsg, hst, hR⟩ := hC
  intro H locs ls hP hS hl
  refine W.widen hk hm ?_
  exact W.lret hx hb (by rw [hr, he]) (fun t ht hW => ⟨⟨x, (), rfl, rfl, by show va_P _ _ _ t.heap; rw [ht]; exact hP⟩, hS.F ht⟩) hS.2.2 hdg hlk
theorem r_vret {x r : Unit} {rest : List Value} (hf : some (x, M) = some (r, M')) (hC : Cx X G own cc ret d mc ms nL) (hk : k ≤ mc) (hm : n ≤ ms) (hdg : decode cc pc = .ok (.return_, 1)) (he : ret = none := by rfl) (hrest : rest = [] := by rfl) : V X G Z M k n (QN X G (QcV G Z r M') mc ms) pc L rest := by
  cases hf
  obtain ⟨⟨hx, hb, hr, hml, hn⟩, hown, htw, hlk, hK, hA, hsg, hst, hR⟩ := hC
  intro H locs ls hP hS hl
  subst hrest
  refine W.widen hk hm ?_
  exact W.vret hx hb (by rw [hr, he]) (fun t ht hW => ⟨⟨(), rfl, trivial, by show va_P _ _ _ t.heap; rw [ht]; exact hP⟩, hS.F ht⟩) hS.2.2 hdg hlk
theorem r_aret {ido : Nat → Nat} {x r : Nat} {C : String} (hf : some (x, M) = some (r, M')) (hC : Cx X G own cc ret d mc ms nL) (he : ret = some (.object C)) (hk : k ≤ mc) (hm : n ≤ ms) (hdg : decode cc pc = .ok (.areturn, 1)) : V X G Z M k n (QN X G (QcR ido G Z r M') mc ms) pc L [.ref (Z.1 (ido x))] := by
  cases hf
  obtain ⟨⟨hx, hb, hr, hml, hn⟩, hown, htw, hlk, hK, hA, hsg, hst, hR⟩ := hC
  intro H locs ls hP hS hl
  refine W.widen hk hm ?_
  exact W.aret hx hb (by rw [hr, he]) (Or.inl ⟨_, rfl⟩) (Or.inr ⟨_, rfl⟩) (fun t ht hW => ⟨⟨(), Z.1 (ido x), rfl, trivial, rfl, by show va_P _ _ _ t.heap; rw [ht]; exact hP⟩, hS.F ht⟩) hS.2.2 hdg hlk
theorem r_iretT {x : Int32} {res : Except Nat Int32} {Xc : String → State → State → Prop} (hf : some (Except.ok x, M) = some (res, M')) (hC : Cx X G own cc ret d mc ms nL) (hk : k ≤ mc) (hm : n ≤ ms) (hdg : decode cc pc = .ok (.ireturn, 1)) (he : ret = some .int := by rfl) : V X G Z M k n (QT X G (QcTI G Z res M') Xc mc ms) pc L [.int x] := by
  cases hf
  obtain ⟨⟨hx, hb, hr, hml, hn⟩, hown, htw, hlk, hK, hA, hsg, hst, hR⟩ := hC
  intro H locs ls hP hS hl
  refine W.widen hk hm (vx_ret ?_)
  exact W.iret hx hb (by rw [hr, he]) (fun t ht hW => ⟨⟨x, (), rfl, rfl, by show va_P _ _ _ t.heap; rw [ht]; exact hP⟩, hS.F ht⟩) hS.2.2 hdg hlk
theorem r_vretT {x : Unit} {rest : List Value} {res : Except Nat Unit} {Xc : String → State → State → Prop} (hf : some (Except.ok x, M) = some (res, M')) (hC : Cx X G own cc ret d mc ms nL) (hk : k ≤ mc) (hm : n ≤ ms) (hdg : decode cc pc = .ok (.return_, 1)) (he : ret = none := by rfl) (hrest : rest = [] := by rfl) : V X G Z M k n (QT X G (QcTV G Z res M') Xc mc ms) pc L rest := by
  cases hf
  obtain ⟨⟨hx, hb, hr, hml, hn⟩, hown, htw, hlk, hK, hA, hsg, hst, hR⟩ := hC
  intro H locs ls hP hS hl
  subst hrest
  refine W.widen hk hm (vx_ret ?_)
  exact W.vret hx hb (by rw [hr, he]) (fun t ht hW => ⟨⟨(), rfl, rfl, by show va_P _ _ _ t.heap; rw [ht]; exact hP⟩, hS.F ht⟩) hS.2.2 hdg hlk
end RX
def th_names : List String := ["java/lang/RuntimeException", "java/lang/Exception"]
def ThK (own : String) (ik ic e : Nat) : Prop := Bundle.fit (exn e) = true ∧ (∀ n ∈ th_names, Bundle.fit n = true) ∧ Cond.classLink own ik (exn e) ∈ TW ∧ Cond.initialized (exn e) ∈ TW ∧ (∀ w ∈ vx_at0 own ic (exn e) th_names, w ∈ TW) ∧ (∀ w ∈ Cond.classLink own ik (exn e) :: Cond.initialized (exn e) :: vx_at0 own ic (exn e) th_names, vx_ot w = true)
theorem r_throw {X : XX} {G : GG} {Z : ZZ} {M M' : Mem} {k n : Nat} {pc : Nat} {L : List (Nat × Value)} {own : String} {cc : ByteArray} {ret : Option FieldType} {d mc ms nL : Nat} {α : Type} {res : Except Nat α} {Qc : Array Value → State → Outcome → State → Prop} {rest : List Value} {ik ic e : Nat} (hf : some (Except.error e, M) = some (res, M')) (hC : Cx X G own cc ret d mc ms nL) (hno : ∀ x ∈ (xc X).exceptionTable.toList, False) (th : ThK own ik ic e)
    (d0 : decode cc pc = .ok (.new ik, 3)) (d3 : decode cc (pc + 3) = .ok (.dup, 1)) (d4 : decode cc (pc + 4) = .ok (.invokespecial ic, 3)) (d7 : decode cc (pc + 7) = .ok (.athrow, 1)) (hd : 6 ≤ d) (hrest : (rest.map fun v => v.category).sum ≤ 8) (hk : k + 1 ≤ mc) (hm : n + 6 ≤ ms) : V X G Z M k n (QT X G Qc (XcT G Z res M') mc ms) pc L rest := by
  cases hf
  have hC0 := hC
  obtain ⟨⟨hx, hb, hr, hml, hn⟩, hown, htw, hlk, hK, hA, hsg, hst, hR⟩ := hC
  obtain ⟨t1, t2, t3, t4, t5, t6⟩ := th
  intro H locs ls hP hS hl
  obtain ⟨hR1, hR2, hR3, hR4⟩ := hR
  have hsg2 := hsg
  obtain ⟨-, -, -, hU, hN, -⟩ := hsg2
  refine vx_throw0 (names := th_names) hx hb hst hown t1 t2 (htw.use _ _ t3) (htw.use _ _ t4) (fun w hw => htw.use _ _ (t5 w hw)) t6 hU hN hS (by rw [hl.1, hn, hml]) d0 d3 d4 d7 (fun x hx => (hno x hx).elim) (by rw [hR1]; show 2 + 3 < d; omega) (by show _ + (13 * (2 + 1) + 42) ≤ _; omega) (by rw [hR3]; omega) (by rw [hR4]; omega) hlk (fun t hvm hsz hq => ?_) hS.2.2 hk hm
  refine ⟨e, rfl, ⟨rfl, ?_⟩, ⟨Nat.le_trans hS.1 hsz, fun q h1 h2 => (hq q (Nat.lt_of_lt_of_le h1 hS.1)).trans (hS.2.1 q h1 h2)⟩⟩
  exact hP.kept (fun i q hi => hq _ ((hP i q hi).lt))
theorem th_iae : ThK RX5 48 50 0 := ⟨by decide +kernel, by decide +kernel, by decide +kernel, by decide +kernel, by decide +kernel, by decide +kernel⟩
theorem th_ise : ThK RX5 55 57 1 := ⟨by decide +kernel, by decide +kernel, by decide +kernel, by decide +kernel, by decide +kernel, by decide +kernel⟩
theorem th_iob : ThK RX5 151 153 2 := ⟨by decide +kernel, by decide +kernel, by decide +kernel, by decide +kernel, by decide +kernel, by decide +kernel⟩
