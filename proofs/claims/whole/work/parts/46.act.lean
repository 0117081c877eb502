theorem CRel.now {M M' : Mem} {D : Ds} {P' : Pg} (h : CRel M D) (o : Off (RSt 0) M M') (hs : StRep M' 0 P') : CRel M' (dPut D P') := by
  have i0 := iSt_eq 0
  have ne : ∀ d, (d < 44 ∨ 47 ≤ d) → M' d = M d := fun d hd => o d (by unfold RSt; omega)
  obtain ⟨⟨a1, a2⟩, b, ⟨nx, c1, c2, c3, c4⟩, d, e⟩ := h
  exact ⟨⟨by rw [ne 1 (by omega)]; exact a1, fun i hi => by rw [ne 2 (by omega)]; exact a2 i hi⟩, hs, ⟨nx, c1, by rw [ne 3 (by omega)]; exact c2, by rw [ne 3 (by omega)]; exact c3, fun j hj => (c4 j hj).same (fun d h1 h2 => ne d (by have := iSt_eq (4 + (nx + 14 - dH D + j) % 14); omega))⟩, fun s hs => ⟨by rw [ne 6 (by omega)]; exact (d s hs).1, fun hf => ((d s hs).2 hf).same (fun d h1 h2 => ne d (by have := iSt_eq (2 + s); omega))⟩, e.same (fun d h1 h2 => ne d (by omega))⟩
theorem MRel.now {M M' : Mem} {D : Ds} {P' : Pg} (h : MRel M D) (o : Off (fun d => d = 30) M M') (hp : PR M' 30 0 P') : MRel M' (dPut D P') := by
  have ne : ∀ d, d ≠ 30 → M' d = M d := fun d hd => o d hd
  obtain ⟨⟨a1, a2⟩, b, ⟨c1, c2⟩, d⟩ := h
  exact ⟨⟨by rw [ne 27 (by omega)]; exact a1, fun i hi => by rw [ne 28 (by omega)]; exact a2 i hi⟩, hp, ⟨by rw [ne 27 (by omega)]; exact c1, fun j hj => (c2 j hj).same (ne 33 (by omega))⟩, fun s hs => ⟨by rw [ne 35 (by omega)]; exact (d s hs).1, fun hf => ((d s hs).2 hf).same (ne 34 (by omega))⟩⟩
theorem dPut_Ok {D : Ds} {P' : Pg} (h : DOk D) (hP : PgOk P') : DOk (dPut D P') := ⟨h.1, h.2.1, hP, h.2.2.2.1, h.2.2.2.2.1, h.2.2.2.2.2⟩
/-- remember, then an act on the music -/
theorem c_act {α : Type} {M : Mem} {D : Ds} {P' : Pg} {res : α} (h : CRel M D) (hD : DOk D) (F : Unit → Mem → Option (α × Mem)) (hF : ∀ u M2, StRep M2 0 (dP D) → Tot (F u M2) (fun y => y.1 = res ∧ StRep y.2 0 P' ∧ Off (RSt 0) M2 y.2)) : Tot (ob (f_X1_remember 0 M) F) (fun y => y.1 = res ∧ CRel y.2 (dPut (dRem D) P') ∧ Off CI M y.2) := by
  refine Tot.ob ((c_remember h hD).mono ?_)
  intro ⟨u, M2⟩ ⟨h2, o2⟩
  refine (hF u M2 h2.2.1).mono ?_
  intro y ⟨a, b, o⟩
  exact ⟨a, h2.now o b, Off.tr o2 (o.wk (fun d hd => by unfold RSt at hd; have := iSt_eq 0; unfold CI; omega))⟩
theorem m_act {α : Type} {M : Mem} {D : Ds} {P' : Pg} {res : α} (h : MRel M D) (hD : DOk D) (F : Unit → Mem → Option (α × Mem)) (hF : ∀ u M2, PR M2 30 0 (dP D) → Tot (F u M2) (fun y => y.1 = res ∧ PR y.2 30 0 P' ∧ Off (fun d => d = 30) M2 y.2)) : Tot (ob (f_X6_remember M) F) (fun y => y.1 = res ∧ y.2 27 0 = M 27 0 ∧ MRel y.2 (dPut (dRem D) P') ∧ Off MI M y.2) := by
  refine Tot.ob ((m_remember h hD).mono ?_)
  intro ⟨u, M2⟩ ⟨h2, e, o2⟩
  refine (hF u M2 h2.2.1).mono ?_
  intro y ⟨a, b, o⟩
  exact ⟨a, by rw [o 27 (by omega)]; exact e, h2.now o b, Off.tr o2 (o.wk (fun d hd => by unfold MI; omega))⟩
/-- what a call comes to: refused, or an answer -/
theorem Agree.no {h : Nat → Option Int32} {fc : Mem → Option (Except Nat Int32 × Mem)} {fm : Mem → Option (Int32 × Mem)} {D : Ds} (hD : DOk D) (e n : Nat) (he : h e = some (iz n)) (hn : 0 < n ∧ n < 10)
    (hc : ∀ M, CRel M D → fc M = some (.error e, M)) (hm : ∀ M, MRel M D → ∃ v, fm M = some (v, mw M 27 0 (iz n))) : Agree h fc fm D := by
  have n0 : ¬ (iz (n : Int) = 0) := by rw [show (0 : Int32) = iz 0 from rfl, iz_eq (by omega) (by omega) (by omega) (by omega)]; omega
  refine ⟨D, iz n, 0, hD, fun M hM => ?_, fun M hM => ?_⟩
  · have hw : wrp h (some (.error e, M)) = some (iz n, M) := by
      show (match h e with | none => none | some r => some (r, M)) = _
      rw [he]
    rw [hc M hM, hw]
    exact Tot.mk ⟨rfl, fun z => absurd z n0, hM, Off.rf⟩
  · obtain ⟨v, hv⟩ := hm M hM
    have o : Off MI M (mw M 27 0 (iz n)) := Off.rf.put (by unfold MI; omega)
    exact Tot.of hv ⟨fun z => absurd z n0, by show mw M 27 0 (iz n) 27 0 = _; rw [mw_at, if_pos rfl], hM.put (Or.inl rfl), o⟩
theorem Agree.yes {h : Nat → Option Int32} {fc : Mem → Option (Except Nat Int32 × Mem)} {fm : Mem → Option (Int32 × Mem)} {D D' : Ds} (hD : DOk D') (v : Int32)
    (hc : ∀ M, CRel M D → Tot (fc M) (fun x => x.1 = .ok v ∧ CRel x.2 D' ∧ Off CI M x.2)) (hm : ∀ M, MRel M D → Tot (fm M) (fun x => x.1 = v ∧ x.2 27 0 = 0 ∧ MRel x.2 D' ∧ Off MI M x.2)) : Agree h fc fm D := by
  refine ⟨D', 0, v, hD, fun M hM => ?_, fun M hM => ?_⟩
  · obtain ⟨⟨x, M2⟩, e, hx, h2, o⟩ := hc M hM
    have hx : x = .ok v := hx
    have o : Off CI M M2 := o
    rw [e, hx, wrp_ok]
    refine Tot.mk ⟨rfl, fun _ => by show mw M2 43 0 v 43 0 = v; rw [mw_at, if_pos rfl], h2.out v, ?_⟩
    have o' : Off (fun d => CI d ∨ d = 43) M M2 := o.wk (fun d hd => Or.inl hd)
    exact o'.put (Or.inr rfl)
  · refine (hm M hM).mono ?_
    intro x ⟨a, b, c, d⟩
    exact ⟨fun _ => a, b, c, d⟩
theorem g_set (D : Ds) (hD : DOk D) (x y : Int32) : Agree h_L_set (f_X5_set x y) (f_X6_set x y) D := by
  obtain ⟨a, rfl, a1, a2⟩ := izself x
  obtain ⟨v, rfl, v1, v2⟩ := izself y
  by_cases c : setOk a v
  · obtain ⟨j, rfl, hj⟩ : ∃ j : Nat, a = (j : Int) ∧ j < 6 := ⟨a.toNat, by omega, by omega⟩
    have hP := hD.2.2.1
    refine Agree.yes (D' := dPut (dRem D) (pset (dP D) j v)) (dPut_Ok (dRem_Ok hD) ⟨pset_W hP.1 c, hP.2⟩) (iz (gE (dP D) j)) (fun M hM => ?_) (fun M hM => ?_)
    · unfold f_X5_set
      rw [allowsSetting_eq a1 a2 v1 v2, ob_some, if_neg (by rw [bz_t c]; decide)]
      refine (c_act hM hD _ (res := (.ok (iz (gE (dP D) j)) : Except Nat Int32)) (fun _ M2 h2 => ?_))
      rw [settingAt_eq h2 hj, ob_some, changeSetting_eq hj, ob_some]
      have o1 : Off (RSt 0) M2 (mw M2 (iSt 0 + 1) j (iz v)) := Off.rf.put ⟨by omega, by omega⟩
      exact Tot.mk ⟨rfl, st_set h2 j v, o1⟩
    · unfold f_X6_set
      rw [misSetting_eq a1 a2 v1 v2, ob_some, if_neg (by rw [bz_t c]; decide)]
      unfold f_X6_set_b14
      have rf : f_X6_refused 0 M = some (bz (0 < 0), mw M 27 0 (iz ((0 : Nat) : Int))) := refused_eq (n := 0) (by omega) M
      rw [rf, ob_some, if_pos (show bz ((0 : Nat) < 0) = 0 from bz_f (by omega))]
      have hM0 := hM.put (j := 0) (v := iz ((0 : Nat) : Int)) (Or.inl rfl)
      have o0 : Off MI M (mw M 27 0 (iz ((0 : Nat) : Int))) := Off.rf.put (by unfold MI; omega)
      refine ((m_act hM0 hD _ (P' := pset (dP D) j v) (res := iz (gE (dP D) j)) (fun _ M2 h2 => ?_))).mono ?_
      · rw [if_pos (inb_n (n := j) (by omega) (by omega)), if_pos (inb_n (n := j) (by omega) (by omega)), cl_n (n := j) (by omega), h2.E hj]
        have o1 : Off (fun d => d = 30) M2 (mw M2 30 j (iz v)) := Off.rf.put rfl
        refine Tot.mk ⟨rfl, ⟨fun j' hj' => ?_, ?_, ?_, fun s b hs hb => ?_⟩, o1⟩
        · show mw M2 30 j (iz v) 30 (0 + j') = iz (if j' = j then v else gE (dP D) j')
          rw [mw_at]
          by_cases e : j' = j
          · rw [if_pos (by omega), if_pos e]
          · rw [if_neg (by omega), if_neg e]; exact h2.1 j' hj'
        · show mw M2 30 j (iz v) 30 (0 + 6) = _
          rw [mw_at, if_neg (by omega)]; exact h2.2.1
        · show mw M2 30 j (iz v) 30 (0 + 7) = _
          rw [mw_at, if_neg (by omega)]; exact h2.2.2.1
        · show mw M2 30 j (iz v) 30 (0 + (8 + (16 * s + b))) = _
          rw [mw_at, if_neg (by omega)]; exact h2.2.2.2 s b hs hb
      · intro x ⟨a, b, c, d⟩
        exact ⟨a, by rw [b, mw_at, if_pos rfl]; rfl, c, o0.tr d⟩
  · refine Agree.no hD 0 1 rfl (by omega) (fun M hM => ?_) (fun M hM => ?_)
    · unfold f_X5_set
      rw [allowsSetting_eq a1 a2 v1 v2, ob_some, if_pos (show bz (setOk a v) = 0 from bz_f c)]
    · unfold f_X6_set
      rw [misSetting_eq a1 a2 v1 v2, ob_some, if_pos (show bz (setOk a v) = 0 from bz_f c)]
      unfold f_X6_set_b14
      have rf : f_X6_refused 1 M = some (bz (0 < 1), mw M 27 0 (iz ((1 : Nat) : Int))) := refused_eq (n := 1) (by omega) M
      rw [rf, ob_some, if_neg (by decide)]
      exact ⟨_, rfl⟩
