/-! HISTORY -/
def dRem (D : Ds) : Ds := (D.1, D.2.1, (if dH D < 14 then (dH D + 1, fun j => if j = dH D then dP D else dQ D j) else (14, fun j => if j = 13 then dP D else dQ D (j + 1))), D.2.2.2)
def dPut (D : Ds) (P : Pg) : Ds := (D.1, P, D.2.2)
def dBack (D : Ds) : Ds := (D.1, dQ D (dH D - 1), (dH D - 1, dQ D), D.2.2.2)
theorem dRem_Ok {D : Ds} (h : DOk D) : DOk (dRem D) := by
  obtain ⟨a, b, c, d, e, f⟩ := h
  by_cases c14 : dH D < 14
  · have e1 : dH (dRem D) = dH D + 1 := by show (if dH D < 14 then _ else _ : Nat × (Nat → Pg)).1 = _; rw [if_pos c14]
    have e2 : dQ (dRem D) = fun j => if j = dH D then dP D else dQ D j := by show (if dH D < 14 then _ else _ : Nat × (Nat → Pg)).2 = _; rw [if_pos c14]
    refine ⟨a, b, c, by rw [e1]; omega, fun j hj => ?_, f⟩
    rw [e1] at hj
    rw [e2]
    show PgOk (if j = dH D then dP D else dQ D j)
    split
    · exact c
    · exact e j (by omega)
  · have e1 : dH (dRem D) = 14 := by show (if dH D < 14 then _ else _ : Nat × (Nat → Pg)).1 = _; rw [if_neg c14]
    have e2 : dQ (dRem D) = fun j => if j = 13 then dP D else dQ D (j + 1) := by show (if dH D < 14 then _ else _ : Nat × (Nat → Pg)).2 = _; rw [if_neg c14]
    refine ⟨a, b, c, by rw [e1]; omega, fun j hj => ?_, f⟩
    rw [e1] at hj
    rw [e2]
    show PgOk (if j = 13 then dP D else dQ D (j + 1))
    split
    · exact c
    · exact e (j + 1) (by omega)
theorem remN {nx : Nat} (h : nx < 14) : iz (nx : Int) + 1 - (iz (nx : Int) + 1) / 14 * 14 = iz (((nx + 1) % 14 : Nat) : Int) := by
  rw [a1z, show (14 : Int32) = iz 14 from rfl, iz_div (by omega) (by omega) (by omega) (by omega), iz_mul, iz_sub]
  congr 1
  omega
theorem c_remember {M : Mem} {D : Ds} (h : CRel M D) (hD : DOk D) : Tot (f_X1_remember 0 M) (fun x => CRel x.2 (dRem D) ∧ Off CI M x.2) := by
  unfold f_X1_remember
  obtain ⟨⟨a1, a2⟩, b, ⟨nx, c1, c2, c3, c4⟩, d, e⟩ := h
  have h14 := hD.2.2.2.1
  rw [c2, if_pos (inb_n (n := nx) (by omega) (by omega)), cl_n (n := nx) (by omega)]
  refine Tot.ob ((take_rep (q := 4 + nx) (r := 0) (by omega) b hD.2.2.1.1.1).mono ?_)
  intro ⟨_, M2⟩ ⟨hs, o⟩
  have hs : StRep M2 (4 + nx) (dP D) := hs
  have o : Off (RSt (4 + nx)) M M2 := o
  have ie := iSt_eq (4 + nx)
  have ne : ∀ d, ¬ RSt (4 + nx) d → M2 d = M d := o
  have n3 : M2 3 = M 3 := ne 3 (by unfold RSt; omega)
  have c2' : M2 3 1 = iz nx := by rw [n3]; exact c2
  have c3' : M2 3 2 = iz (dH D) := by rw [n3]; exact c3
  have oCI : Off CI M M2 := o.wk (fun d hd => by unfold RSt at hd; unfold CI; omega)
  show Tot (if 14 ≤ mw M2 3 1 (M2 3 1 + 1 - (M2 3 1 + 1) / 14 * 14) 3 2 then some ((), mw M2 3 1 (M2 3 1 + 1 - (M2 3 1 + 1) / 14 * 14)) else some ((), mw (mw M2 3 1 (M2 3 1 + 1 - (M2 3 1 + 1) / 14 * 14)) 3 2 (mw M2 3 1 (M2 3 1 + 1 - (M2 3 1 + 1) / 14 * 14) 3 2 + 1))) _
  rw [c2', remN c1]
  have hc : mw M2 3 1 (iz (((nx + 1) % 14 : Nat) : Int)) 3 2 = iz (dH D) := by rw [mw_at, if_neg (by omega), c3']
  rw [hc]
  have fin : ∀ (M3 : Mem) (hN : Nat) (Q : Nat → Pg), (hN = dH (dRem D)) → Q = dQ (dRem D) → M3 3 1 = iz (((nx + 1) % 14 : Nat) : Int) → M3 3 2 = iz hN → (∀ d, d ≠ 3 → M3 d = M2 d) → (∀ j, j < hN → StRep M2 (4 + ((nx + 1) % 14 + 14 - hN + j) % 14) (Q j)) → CRel M3 (dRem D) ∧ Off CI M M3 := fun M3 hN Q q1 q2 q3 q4 q5 q6 => by
    subst q1 q2
    have sm : ∀ d, d ≠ 3 → ¬ RSt (4 + nx) d → M3 d = M d := fun d x y => (q5 d x).trans (ne d y)
    refine ⟨⟨⟨by rw [sm 1 (by omega) (by unfold RSt; omega)]; exact a1, fun i hi => by rw [sm 2 (by omega) (by unfold RSt; omega)]; exact a2 i hi⟩, b.same (fun d x y => sm d (by have := iSt_eq 0; omega) (by unfold RSt; have := iSt_eq 0; omega)), ⟨(nx + 1) % 14, by omega, q3, q4, fun j hj => (q6 j hj).same (fun d x y => q5 d (by have := iSt_eq (4 + ((nx + 1) % 14 + 14 - dH (dRem D) + j) % 14); omega))⟩, fun s hs => ⟨by rw [sm 6 (by omega) (by unfold RSt; omega)]; exact (d s hs).1, fun hf => ((d s hs).2 hf).same (fun d x y => sm d (by have := iSt_eq (2 + s); omega) (by unfold RSt; have := iSt_eq (2 + s); omega))⟩, e.same (fun d x y => sm d (by omega) (by unfold RSt; omega))⟩, oCI.tr (fun d hd => q5 d (by unfold CI at hd; omega))⟩
  have old : ∀ j, j < dH D → (nx + 14 - dH D + j) % 14 ≠ nx → StRep M2 (4 + (nx + 14 - dH D + j) % 14) (dQ D j) := fun j hj hn => (c4 j hj).same (fun d x y => ne d (by unfold RSt; have := iSt_eq (4 + (nx + 14 - dH D + j) % 14); omega))
  by_cases c14 : dH D < 14
  · have e1 : dH (dRem D) = dH D + 1 := by show (if dH D < 14 then _ else _ : Nat × (Nat → Pg)).1 = _; rw [if_pos c14]
    have e2 : dQ (dRem D) = fun j => if j = dH D then dP D else dQ D j := by show (if dH D < 14 then _ else _ : Nat × (Nat → Pg)).2 = _; rw [if_pos c14]
    rw [if_neg (by rw [show (14 : Int32) = iz ((14 : Nat) : Int) from rfl, lez (by omega) (by omega)]; omega)]
    refine Tot.mk (fin _ (dH D + 1) (fun j => if j = dH D then dP D else dQ D j) e1.symm e2.symm ?_ ?_ (fun d hd => ?_) (fun j hj => ?_))
    · show mw (mw M2 3 1 (iz (((nx + 1) % 14 : Nat) : Int))) 3 2 (iz (dH D) + 1) 3 1 = _
      rw [mw_at, if_neg (by omega), mw_at, if_pos rfl]
    · show mw (mw M2 3 1 (iz (((nx + 1) % 14 : Nat) : Int))) 3 2 (iz (dH D) + 1) 3 2 = _
      rw [mw_at, if_pos rfl, a1z]
    · exact (mw_ne hd).trans (mw_ne hd)
    · show StRep M2 _ (if j = dH D then dP D else dQ D j)
      by_cases ej : j = dH D
      · rw [if_pos ej, show ((nx + 1) % 14 + 14 - (dH D + 1) + j) % 14 = nx by omega]
        exact hs
      · rw [if_neg ej, show ((nx + 1) % 14 + 14 - (dH D + 1) + j) % 14 = (nx + 14 - dH D + j) % 14 by omega]
        exact old j (by omega) (by omega)
  · have e1 : dH (dRem D) = 14 := by show (if dH D < 14 then _ else _ : Nat × (Nat → Pg)).1 = _; rw [if_neg c14]
    have e2 : dQ (dRem D) = fun j => if j = 13 then dP D else dQ D (j + 1) := by show (if dH D < 14 then _ else _ : Nat × (Nat → Pg)).2 = _; rw [if_neg c14]
    have eH : dH D = 14 := by omega
    rw [if_pos (by rw [show (14 : Int32) = iz ((14 : Nat) : Int) from rfl, lez (by omega) (by omega)]; omega)]
    refine Tot.mk (fin _ 14 (fun j => if j = 13 then dP D else dQ D (j + 1)) e1.symm e2.symm ?_ ?_ (fun d hd => ?_) (fun j hj => ?_))
    · show mw M2 3 1 (iz (((nx + 1) % 14 : Nat) : Int)) 3 1 = _
      rw [mw_at, if_pos rfl]
    · show mw M2 3 1 (iz (((nx + 1) % 14 : Nat) : Int)) 3 2 = _
      rw [hc, eH]
    · exact mw_ne hd
    · show StRep M2 _ (if j = 13 then dP D else dQ D (j + 1))
      by_cases ej : j = 13
      · rw [if_pos ej, show ((nx + 1) % 14 + 14 - 14 + j) % 14 = nx by omega]
        exact hs
      · rw [if_neg ej, show ((nx + 1) % 14 + 14 - 14 + j) % 14 = (nx + 14 - dH D + (j + 1)) % 14 by omega]
        exact old (j + 1) (by omega) (by omega)
theorem m_remember {M : Mem} {D : Ds} (h : MRel M D) (hD : DOk D) : Tot (f_X6_remember M) (fun x => MRel x.2 (dRem D) ∧ x.2 27 0 = M 27 0 ∧ Off MI M x.2) := by
  unfold f_X6_remember
  have h14 := hD.2.2.2.1
  -- one page more behind n pages
  have push : ∀ (M1 : Mem) (n : Nat) (Q : Nat → Pg), n < 14 → M1 27 9 = iz n → (∀ j, j < n → PR M1 33 (72 * j) (Q j)) → (∀ d, d ≠ 33 → d ≠ 27 → M1 d = M d) → (∀ j, j ≠ 9 → M1 27 j = M 27 j) → (n + 1 = dH (dRem D)) → (∀ j, j < n → Q j = dQ (dRem D) j) → dQ (dRem D) n = dP D → Tot (f_X6_remember_b49 M1) (fun x => MRel x.2 (dRem D) ∧ x.2 27 0 = M 27 0 ∧ Off MI M x.2) := fun M1 n Q hn h9 hQ hne h27 e1 e2 e3 => by
    unfold f_X6_remember_b49
    rw [h9, show (72 : Int32) * iz (n : Int) = iz ((72 * n : Nat) : Int) by rw [show (72 : Int32) = iz 72 from rfl, iz_mul]; rfl, show (0 : Int32) = iz ((0 : Nat) : Int) from rfl]
    refine Tot.ob ((copyPage_tot (M := M1) (r := 30) (q := 33) (a := 0) (c := 72 * n) (by show 0 + 72 ≤ 72; omega) (by show 72 * n + 72 ≤ 1008; omega) (by decide) (by decide) (by omega)).mono ?_)
    intro ⟨_, M2⟩ ⟨k1, k2, k3⟩
    have k3 : Off (fun d => d = 33) M1 M2 := k3
    have hp30 : PR M1 30 0 (dP D) := h.2.1.same (hne 30 (by omega) (by omega))
    have hlast : PR M2 33 (72 * n) (dP D) := hp30.copy hD.2.2.1.1.1 k1
    have hold : ∀ j, j < n → PR M2 33 (72 * j) (Q j) := fun j hj => (hQ j hj).copy (by
      have := hD.2.2.2.2.1
      have hQj := e2 j hj
      have := (dRem_Ok hD).2.2.2.2.1 j (by omega)
      rw [hQj]
      exact this.1.1) (fun k hk => k2 _ (by omega))
    have h272 : M2 27 9 = iz n := by rw [k3 27 (by omega)]; exact h9
    show Tot (some ((), mw M2 27 9 (M2 27 9 + 1))) _
    rw [h272, a1z]
    have sm : ∀ d, d ≠ 33 → d ≠ 27 → mw M2 27 9 (iz ((n + 1 : Nat) : Int)) d = M d := fun d x y => (mw_ne y).trans ((k3 d x).trans (hne d x y))
    have s27 : ∀ j, j ≠ 9 → mw M2 27 9 (iz ((n + 1 : Nat) : Int)) 27 j = M 27 j := fun j hj => by
      rw [mw_at, if_neg hj, k3 27 (by omega)]; exact h27 j hj
    have fin : ∀ M3 : Mem, (∀ d, d ≠ 33 → d ≠ 27 → M3 d = M d) → (∀ j, j ≠ 9 → M3 27 j = M 27 j) → M3 27 9 = iz ((n + 1 : Nat) : Int) → M3 33 = M2 33 → MRel M3 (dRem D) ∧ M3 27 0 = M 27 0 ∧ Off MI M M3 := fun M3 sm s27 q9 q33 => by
      obtain ⟨⟨a1, a2⟩, b, ⟨cc1, cc2⟩, d⟩ := h
      refine ⟨⟨⟨(s27 2 (by omega)).trans a1, fun i hi => by rw [sm 28 (by omega) (by omega)]; exact a2 i hi⟩, b.same (sm 30 (by omega) (by omega)), ⟨by rw [q9, e1], fun j hj => ?_⟩, fun s hs => ⟨by rw [sm 35 (by omega) (by omega)]; exact (d s hs).1, fun hf => ((d s hs).2 hf).same (sm 34 (by omega) (by omega))⟩⟩, s27 0 (by omega), fun d hd => sm d (by unfold MI at hd; omega) (by unfold MI at hd; omega)⟩
      refine PR.same (M := M2) ?_ q33
      by_cases ej : j = n
      · rw [ej, e3]; exact hlast
      · rw [← e2 j (by omega)]; exact hold j (by omega)
    have w1 : mw M2 27 9 (iz ((n + 1 : Nat) : Int)) 27 9 = iz ((n + 1 : Nat) : Int) := by rw [mw_at, if_pos rfl]
    have w2 : mw M2 27 9 (iz ((n + 1 : Nat) : Int)) 33 = M2 33 := mw_ne (by omega)
    exact Tot.mk (fin _ sm s27 w1 w2)
  have e9 : M 27 9 = iz (dH D) := h.2.2.1.1
  rw [e9]
  by_cases c14 : dH D < 14
  · have e1 : dH (dRem D) = dH D + 1 := by show (if dH D < 14 then _ else _ : Nat × (Nat → Pg)).1 = _; rw [if_pos c14]
    have e2 : dQ (dRem D) = fun j => if j = dH D then dP D else dQ D j := by show (if dH D < 14 then _ else _ : Nat × (Nat → Pg)).2 = _; rw [if_pos c14]
    rw [if_neg (by rw [show (14 : Int32) = iz 14 from rfl, iz_eq (by omega) (by omega) (by omega) (by omega)]; omega)]
    exact push M (dH D) (dQ D) c14 e9 h.2.2.1.2 (fun _ _ _ => rfl) (fun _ _ => rfl) e1.symm (fun j hj => by rw [e2]; show _ = if j = dH D then dP D else dQ D j; rw [if_neg (by omega)]) (by rw [e2]; show (if dH D = dH D then _ else _) = _; rw [if_pos rfl])
  · have e1 : dH (dRem D) = 14 := by show (if dH D < 14 then _ else _ : Nat × (Nat → Pg)).1 = _; rw [if_neg c14]
    have e2 : dQ (dRem D) = fun j => if j = 13 then dP D else dQ D (j + 1) := by show (if dH D < 14 then _ else _ : Nat × (Nat → Pg)).2 = _; rw [if_neg c14]
    have eH : dH D = 14 := by omega
    rw [if_pos (by rw [eH]; rfl), show (0 : Int32) = iz ((0 : Nat) : Int) from rfl]
    refine up_tot 936 (fun i M' => (∀ j, j < i → M' 33 j = M 33 (j + 72)) ∧ (∀ j, i ≤ j → M' 33 j = M 33 j) ∧ Off (fun d => d = 33) M M') ?_ ?_ 9999 0 M (by omega) ⟨fun j hj => absurd hj (Nat.not_lt_zero j), fun _ _ => rfl, Off.rf⟩ (by omega)
    · intro K i M' hi ⟨h1, h2, h3⟩ hK
      unfold f_X6_remember_b11
      have l : ¬ ((936 : Int32) ≤ iz (i : Int)) := by rw [show (936 : Int32) = iz ((936 : Nat) : Int) from rfl, lez (by omega) (by omega)]; omega
      rw [if_neg l, show iz (i : Int) + 72 = iz ((i + 72 : Nat) : Int) by rw [show (72 : Int32) = iz 72 from rfl, iz_add]; rfl, if_pos (inb_n (n := i + 72) (by omega) (by omega)), if_pos (inb_n (n := i) (by omega) (by omega)), cl_n (n := i + 72) (by omega), cl_n (n := i) (by omega), a1z, h2 (i + 72) (by omega)]
      refine hK _ ⟨fun j hj => ?_, fun j hj => ?_, h3.put rfl⟩
      · rw [mw_at]
        by_cases e : j = i
        · rw [if_pos e, e]
        · rw [if_neg e]; exact h1 j (by omega)
      · rw [mw_at, if_neg (by omega)]; exact h2 j (by omega)
    · intro K M' ⟨h1, h2, h3⟩
      unfold f_X6_remember_b11
      rw [if_pos (by decide)]
      unfold f_X6_remember_b39
      have h279 : M' 27 9 = iz (dH D) := by rw [h3 27 (by omega)]; exact e9
      refine push _ 13 (fun j => dQ D (j + 1)) (by omega) ?_ (fun j hj => ?_) (fun d x y => (mw_ne y).trans (h3 d x)) (fun j hj => ?_) (by rw [e1]) (fun j hj => by rw [e2]; show _ = if j = 13 then dP D else dQ D (j + 1); rw [if_neg (by omega)]) (by rw [e2]; show (if 13 = 13 then _ else _) = _; rw [if_pos rfl])
      · rw [mw_at, if_pos rfl, h279, eH]; rfl
      · refine PR.same (M := M') ?_ (mw_ne (by omega))
        exact (h.2.2.1.2 (j + 1) (by omega)).copy (hD.2.2.2.2.1 (j + 1) (by omega)).1.1 (fun k hk => by
          rw [h1 _ (by omega)]
          congr 1
          omega)
      · rw [mw_at, if_neg hj, h3 27 (by omega)]
