/-! HISTORY -/
def dRem (D : Ds) : Ds := (D.1, D.2.1, (if dH D < 14 then (dH D + 1, fun j => if j = dH D then dP D else dQ D j) else (14, fun j => if j = 13 then dP D else dQ D (j + 1))), D.2.2.2)
def dPut (D : Ds) (P : Pg) : Ds := (D.1, P, D.2.2)
def dBack (D : Ds) : Ds := (D.1, dQ D (dH D - 1), (dH D - 1, dQ D), D.2.2.2)
theorem dRem_Ok {D : Ds} (h : DOk D) : DOk (dRem D) := by
  obtain ⟨a, b, c, d, e, f⟩ := h
  by_cases c14 : dH D < 14
  · have e1 : dH (dRem D) = dH D + 1 := by show (if dH D < 14 then _ else _ : Nat × (Nat → Pg)).1 = _; rw [if_pos c14]
    have e2 : dQ (dRem D) = fun j => if j = dH D then dP D else dQ D j := by show (if dH D < 14 then _ else _ : Nat × (Nat → Pg)).2 = _; rw [if_pos c14]
    refine ⟨a, b, c, by rw [e1]; omega, fun j hj => ?_, f⟩
    rw [e1] at hj
    rw [e2]
    show PgOk (if j = dH D then dP D else dQ D j)
    split
    · exact c
    · exact e j (by omega)
  · have e1 : dH (dRem D) = 14 := by show (if dH D < 14 then _ else _ : Nat × (Nat → Pg)).1 = _; rw [if_neg c14]
    have e2 : dQ (dRem D) = fun j => if j = 13 then dP D else dQ D (j + 1) := by show (if dH D < 14 then _ else _ : Nat × (Nat → Pg)).2 = _; rw [if_neg c14]
    refine ⟨a, b, c, by rw [e1]; omega, fun j hj => ?_, f⟩
    rw [e1] at hj
    rw [e2]
    show PgOk (if j = 13 then dP D else dQ D (j + 1))
    split
    · exact c
    · exact e (j + 1) (by omega)
theorem remN {nx : Nat} (h : nx < 14) : iz (nx : Int) + 1 - (iz (nx : Int) + 1) / 14 * 14 = iz (((nx + 1) % 14 : Nat) : Int) := by
  rw [a1z, show (14 : Int32) = iz 14 from rfl, iz_div (by omega) (by omega) (by omega) (by omega), iz_mul, iz_sub]
  congr 1
  omega
theorem c_remember {M : Mem} {D : Ds} (h : CRel M D) (hD : DOk D) : Tot (f_X1_remember 0 M) (fun x => CRel x.2 (dRem D) ∧ Off CI M x.2) := by
  unfold f_X1_remember
  obtain ⟨⟨a1, a2⟩, b, ⟨nx, c1, c2, c3, c4⟩, d, e⟩ := h
  have h14 := hD.2.2.2.1
  rw [c2, if_pos (inb_n (n := nx) (by omega) (by omega)), cl_n (n := nx) (by omega)]
  refine Tot.ob ((take_rep (q := 4 + nx) (r := 0) (by omega) b hD.2.2.1.1.1).mono ?_)
  intro ⟨_, M2⟩ ⟨hs, o⟩
  have hs : StRep M2 (4 + nx) (dP D) := hs
  have o : Off (RSt (4 + nx)) M M2 := o
  have ie := iSt_eq (4 + nx)
  have ne : ∀ d, ¬ RSt (4 + nx) d → M2 d = M d := o
  have n3 : M2 3 = M 3 := ne 3 (by unfold RSt; omega)
  have c2' : M2 3 1 = iz nx := by rw [n3]; exact c2
  have c3' : M2 3 2 = iz (dH D) := by rw [n3]; exact c3
  have oCI : Off CI M M2 := o.wk (fun d hd => by unfold RSt at hd; unfold CI; omega)
  show Tot (if 14 ≤ mw M2 3 1 (M2 3 1 + 1 - (M2 3 1 + 1) / 14 * 14) 3 2 then some ((), mw M2 3 1 (M2 3 1 + 1 - (M2 3 1 + 1) / 14 * 14)) else some ((), mw (mw M2 3 1 (M2 3 1 + 1 - (M2 3 1 + 1) / 14 * 14)) 3 2 (mw M2 3 1 (M2 3 1 + 1 - (M2 3 1 + 1) / 14 * 14) 3 2 + 1))) _
  rw [c2', remN c1]
  have hc : mw M2 3 1 (iz (((nx + 1) % 14 : Nat) : Int)) 3 2 = iz (dH D) := by rw [mw_at, if_neg (by omega), c3']
  rw [hc]
  have fin : ∀ (M3 : Mem) (hN : Nat) (Q : Nat → Pg), (hN = dH (dRem D)) → Q = dQ (dRem D) → M3 3 1 = iz (((nx + 1) % 14 : Nat) : Int) → M3 3 2 = iz hN → (∀ d, d ≠ 3 → M3 d = M2 d) → (∀ j, j < hN → StRep M2 (4 + ((nx + 1) % 14 + 14 - hN + j) % 14) (Q j)) → CRel M3 (dRem D) ∧ Off CI M M3 := fun M3 hN Q q1 q2 q3 q4 q5 q6 => by
    subst q1 q2
    have sm : ∀ d, d ≠ 3 → ¬ RSt (4 + nx) d → M3 d = M d := fun d x y => (q5 d x).trans (ne d y)
    refine ⟨⟨⟨by rw [sm 1 (by omega) (by unfold RSt; omega)]; exact a1, fun i hi => by rw [sm 2 (by omega) (by unfold RSt; omega)]; exact a2 i hi⟩, b.same (fun d x y => sm d (by have := iSt_eq 0; omega) (by unfold RSt; have := iSt_eq 0; omega)), ⟨(nx + 1) % 14, by omega, q3, q4, fun j hj => (q6 j hj).same (fun d x y => q5 d (by have := iSt_eq (4 + ((nx + 1) % 14 + 14 - dH (dRem D) + j) % 14); omega))⟩, fun s hs => ⟨by rw [sm 6 (by omega) (by unfold RSt; omega)]; exact (d s hs).1, fun hf => ((d s hs).2 hf).same (fun d x y => sm d (by have := iSt_eq (2 + s); omega) (by unfold RSt; have := iSt_eq (2 + s); omega))⟩, e.same (fun d x y => sm d (by omega) (by unfold RSt; omega))⟩, oCI.tr (fun d hd => q5 d (by unfold CI at hd; omega))⟩
  have old : ∀ j, j < dH D → (nx + 14 - dH D + j) % 14 ≠ nx → StRep M2 (4 + (nx + 14 - dH D + j) % 14) (dQ D j) := fun j hj hn => (c4 j hj).same (fun d x y => ne d (by unfold RSt; have := iSt_eq (4 + (nx + 14 - dH D + j) % 14); omega))
  by_cases c14 : dH D < 14
  · have e1 : dH (dRem D) = dH D + 1 := by show (if dH D < 14 then _ else _ : Nat × (Nat → Pg)).1 = _; rw [if_pos c14]
    have e2 : dQ (dRem D) = fun j => if j = dH D then dP D else dQ D j := by show (if dH D < 14 then _ else _ : Nat × (Nat → Pg)).2 = _; rw [if_pos c14]
    rw [if_neg (by rw [show (14 : Int32) = iz ((14 : Nat) : Int) from rfl, lez (by omega) (by omega)]; omega)]
    refine Tot.mk (fin _ (dH D + 1) (fun j => if j = dH D then dP D else dQ D j) e1.symm e2.symm ?_ ?_ (fun d hd => ?_) (fun j hj => ?_))
    · show mw (mw M2 3 1 (iz (((nx + 1) % 14 : Nat) : Int))) 3 2 (iz (dH D) + 1) 3 1 = _
      rw [mw_at, if_neg (by omega), mw_at, if_pos rfl]
    · show mw (mw M2 3 1 (iz (((nx + 1) % 14 : Nat) : Int))) 3 2 (iz (dH D) + 1) 3 2 = _
      rw [mw_at, if_pos rfl, a1z]
    · exact (mw_ne hd).trans (mw_ne hd)
    · show StRep M2 _ (if j = dH D then dP D else dQ D j)
      by_cases ej : j = dH D
      · rw [if_pos ej, show ((nx + 1) % 14 + 14 - (dH D + 1) + j) % 14 = nx by omega]
        exact hs
      · rw [if_neg ej, show ((nx + 1) % 14 + 14 - (dH D + 1) + j) % 14 = (nx + 14 - dH D + j) % 14 by omega]
        exact old j (by omega) (by omega)
  · have e1 : dH (dRem D) = 14 := by show (if dH D < 14 then _ else _ : Nat × (Nat → Pg)).1 = _; rw [if_neg c14]
    have e2 : dQ (dRem D) = fun j => if j = 13 then dP D else dQ D (j + 1) := by show (if dH D < 14 then _ else _ : Nat × (Nat → Pg)).2 = _; rw [if_neg c14]
    have eH : dH D = 14 := by omega
    rw [if_pos (by rw [show (14 : Int32) = iz ((14 : Nat) : Int) from rfl, lez (by omega) (by omega)]; omega)]
    refine Tot.mk (fin _ 14 (fun j => if j = 13 then dP D else dQ D (j + 1)) e1.symm e2.symm ?_ ?_ (fun d hd => ?_) (fun j hj => ?_))
    · show mw M2 3 1 (iz (((nx + 1) % 14 : Nat) : Int)) 3 1 = _
      rw [mw_at, if_pos rfl]
    · show mw M2 3 1 (iz (((nx + 1) % 14 : Nat) : Int)) 3 2 = _
      rw [hc, eH]
    · exact mw_ne hd
    · show StRep M2 _ (if j = 13 then dP D else dQ D (j + 1))
      by_cases ej : j = 13
      · rw [if_pos ej, show ((nx + 1) % 14 + 14 - 14 + j) % 14 = nx by omega]
        exact hs
      · rw [if_neg ej, show ((nx + 1) % 14 + 14 - 14 + j) % 14 = (nx + 14 - dH D + (j + 1)) % 14 by omega]
        exact old (j + 1) (by omega) (by omega)
