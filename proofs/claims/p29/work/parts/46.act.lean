theorem CRel.now {M M' : Mem} {D : Ds} {P' : Pg} (h : CRel M D) (o : Off (RSt 0) M M') (hs : StRep M' 0 P') : CRel M' (dPut D P') := by
  have i0 := iSt_eq 0
  have ne : ∀ d, (d < 44 ∨ 47 ≤ d) → M' d = M d := fun d hd => o d (by unfold RSt; omega)
  obtain ⟨⟨a1, a2⟩, b, ⟨nx, c1, c2, c3, c4⟩, d, e⟩ := h
  exact ⟨⟨by rw [ne 1 (by omega)]; exact a1, fun i hi => by rw [ne 2 (by omega)]; exact a2 i hi⟩, hs, ⟨nx, c1, by rw [ne 3 (by omega)]; exact c2, by rw [ne 3 (by omega)]; exact c3, fun j hj => (c4 j hj).same (fun d h1 h2 => ne d (by have := iSt_eq (4 + (nx + 14 - dH D + j) % 14); omega))⟩, fun s hs => ⟨by rw [ne 6 (by omega)]; exact (d s hs).1, fun hf => ((d s hs).2 hf).same (fun d h1 h2 => ne d (by have := iSt_eq (2 + s); omega))⟩, e.same (fun d h1 h2 => ne d (by omega))⟩
theorem dPut_Ok {D : Ds} {P' : Pg} (h : DOk D) (hP : PgOk P') : DOk (dPut D P') := ⟨h.1, h.2.1, hP, h.2.2.2.1, h.2.2.2.2.1, h.2.2.2.2.2⟩
/-- remember, then an act on the music -/
theorem c_act {α : Type} {M : Mem} {D : Ds} {P' : Pg} {res : α} (h : CRel M D) (hD : DOk D) (F : Unit → Mem → Option (α × Mem)) (hF : ∀ u M2, StRep M2 0 (dP D) → Tot (F u M2) (fun y => y.1 = res ∧ StRep y.2 0 P' ∧ Off (RSt 0) M2 y.2)) : Tot (ob (f_X1_remember 0 M) F) (fun y => y.1 = res ∧ CRel y.2 (dPut (dRem D) P') ∧ Off CI M y.2) := by
  refine Tot.ob ((c_remember h hD).mono ?_)
  intro ⟨u, M2⟩ ⟨h2, o2⟩
  refine (hF u M2 h2.2.1).mono ?_
  intro y ⟨a, b, o⟩
  exact ⟨a, h2.now o b, Off.tr o2 (o.wk (fun d hd => by unfold RSt at hd; have := iSt_eq 0; unfold CI; omega))⟩
