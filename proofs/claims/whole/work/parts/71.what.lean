/-! THE TRIALS -/
theorem CI_CT (d : Nat) (h : CT d) : CI d := by
  unfold CT RSt RRd at h
  have := iSt_eq 1
  unfold CI
  omega
theorem c_take {M : Mem} {D : Ds} (h : CRel M D) (hD : DOk D) : Tot (f_X3_takeFrom 1 0 M) (fun x => StRep x.2 1 (dP D) ∧ CRel x.2 D ∧ Off CT M x.2) := by
  have i1 := iSt_eq 1
  refine (take_rep (q := 1) (r := 0) (by omega) h.2.1 hD.2.2.1.1.1).mono ?_
  intro x ⟨a, o⟩
  exact ⟨a, h.tmp (o.wk (fun d hd => Or.inl hd)) (h.2.2.2.2.same (fun d h1 h2 => o d (by unfold RSt; omega))), o.wk (fun d hd => Or.inl hd)⟩
theorem c_trial {M : Mem} {D : Ds} {P : Pg} (h : CRel M D) (st : StRep M 1 P) (hP : PgW P) : Tot (f_X2_make 1 M) (fun x => RD x.2 P ∧ StRep x.2 1 P ∧ CRel x.2 D ∧ Off CT M x.2) := by
  have i1 := iSt_eq 1
  refine (make_tot st hP h.2.2.2.2 (by omega) (by omega)).mono ?_
  intro x ⟨a, b, c⟩
  exact ⟨a, st.same (fun d x y => c d (by unfold RRd; omega)), h.tmp (c.wk (fun d hd => Or.inr hd)) b, c.wk (fun d hd => Or.inr hd)⟩
theorem c_num {M : Mem} {D : Ds} {P : Pg} (h : CRel M D) (st : StRep M 1 P) (hP : PgW P) {w : Nat} (hw : w < 8) : Tot (f_X5_numberOfTrial (iz w) M) (fun x => x.1 = iz (nWhole P w) ∧ StRep x.2 1 P ∧ CRel x.2 D ∧ Off CT M x.2) := by
  unfold f_X5_numberOfTrial
  refine Tot.ob ((c_trial h st hP).mono ?_)
  intro ⟨_, M2⟩ ⟨a, b, c, d⟩
  have a : RD M2 P := a
  show Tot (ob (f_X2_numberOfWhole (iz (w : Int)) M2) _) _
  rw [numberOfWhole_eq a hP hw, ob_some]
  exact Tot.mk ⟨rfl, b, c, d⟩
/-- a change of the trial -/
theorem CRel.tri {M M' : Mem} {D : Ds} (h : CRel M D) (o : Off (RSt 1) M M') : CRel M' D := by
  have i1 := iSt_eq 1
  exact h.tmp (o.wk (fun d hd => Or.inl hd)) (h.2.2.2.2.same (fun d h1 h2 => o d (by unfold RSt; omega)))
/-- a change of a page that the model only tries -/
theorem MRel.tri {M M' : Mem} {D : Ds} {r : Nat} (hr : r = 31 ∨ r = 32) (h : MRel M D) (o : Off (fun d => d = r) M M') : MRel M' D ∧ M' 27 = M 27 ∧ Off MI M M' :=
  ⟨h.tmp (o.wk (fun d hd => by unfold MT; omega)), o 27 (by omega), o.wk (fun d hd => by unfold MI; omega)⟩
theorem lnA_tri {r : Nat} (hr : r = 31 ∨ r = 32) : lnA r = 72 := by rcases hr with rfl | rfl <;> rfl
theorem m_copy {M : Mem} {D : Ds} {r : Nat} (hr : r = 31 ∨ r = 32) (h : MRel M D) (hD : DOk D) : Tot (f_X6_copyPage 30 0 r 0 M) (fun x => PR x.2 r 0 (dP D) ∧ MRel x.2 D ∧ x.2 27 = M 27 ∧ Off MI M x.2) := by
  have hl := lnA_tri hr
  rw [show (0 : Int32) = iz ((0 : Nat) : Int) from rfl]
  refine (copyPage_tot (r := 30) (q := r) (a := 0) (c := 0) (by show 0 + 72 ≤ 72; omega) (by rw [hl]; omega) (by decide) (by rw [hl]; omega) (by omega)).mono ?_
  intro x ⟨k1, _, k3⟩
  have := h.tri hr k3
  exact ⟨h.2.1.copy hD.2.2.1.1.1 k1, this⟩
theorem m_num {M : Mem} {D : Ds} {P : Pg} {r : Nat} (hr : r = 30 ∨ r = 31 ∨ r = 32) (h : MRel M D) (st : PR M r 0 P) (hP : PgOk P) {w : Nat} (hw : w < 8) : Tot (f_X6_wholeOf r (iz w) M) (fun x => x.1 = iz (nWhole P w) ∧ PR x.2 r 0 P ∧ MRel x.2 D ∧ x.2 27 = M 27 ∧ Off MI M x.2) := by
  have hl : lnA r = 72 := by rcases hr with rfl | rfl | rfl <;> rfl
  refine (wholeOf_tot st hP hl (by omega) hw).mono ?_
  intro x ⟨a, _, o⟩
  exact ⟨a, st.same (o r (by unfold RLy; omega)), h.tmp (o.wk (fun d hd => by unfold RLy at hd; unfold MT; omega)), o 27 (by unfold RLy; omega), o.wk (fun d hd => by unfold RLy at hd; unfold MI; omega)⟩
theorem pr_set {M : Mem} {r : Nat} {P : Pg} (h : PR M r 0 P) (j : Nat) (hj : j < 6) (v : Int) : PR (mw M r j (iz v)) r 0 (pset P j v) := by
  refine ⟨fun j' hj' => ?_, ?_, ?_, fun s b hs hb => ?_⟩
  · show mw M r j (iz v) r (0 + j') = iz (if j' = j then v else gE P j')
    rw [mw_at]
    by_cases e : j' = j
    · rw [if_pos (by omega), if_pos e]
    · rw [if_neg (by omega), if_neg e]; exact h.1 j' hj'
  · rw [mw_at, if_neg (by omega)]; exact h.2.1
  · rw [mw_at, if_neg (by omega)]; exact h.2.2.1
  · rw [mw_at, if_neg (by omega)]; exact h.2.2.2 s b hs hb
theorem pset_Ok {P : Pg} (h : PgOk P) {j : Nat} {v : Int} (hv : setOk j v) : PgOk (pset P j v) := ⟨pset_W h.1 hv, h.2⟩
theorem g_whatIf (D : Ds) (hD : DOk D) (x y z : Int32) : Agree h_L_whatIf (f_X5_whatIf x y z) (f_X6_whatIf x y z) D := by
  obtain ⟨a, rfl, a1, a2⟩ := izself x
  obtain ⟨v, rfl, v1, v2⟩ := izself y
  obtain ⟨w, rfl, w1, w2⟩ := izself z
  have hP := hD.2.2.1
  have mi : ∀ M, f_X6_in (Int32.toInt64 (iz w)) 0 7 M = some (bz (0 ≤ w ∧ w ≤ 7), M) := fun M => by
    rw [show (0 : Int64) = Int32.toInt64 (iz 0) by decide, show (7 : Int64) = Int32.toInt64 (iz 7) by decide, in_eq M w1 w2 (by omega) (by omega) (by omega) (by omega)]
  have up : ∀ M, f_X5_requireUpTo 7 (iz w) M = if 0 ≤ w ∧ w ≤ (7 : Nat) then some (.ok (), M) else some (.error 0, M) := fun M => reqUpTo (n := 7) (by omega) w1 w2
  have no : ∀ (M : Mem), f_X6_whatIf_b25 (iz a) (iz v) (iz w) M = some (0, mw M 27 0 (iz ((1 : Nat) : Int))) := fun M => by
    unfold f_X6_whatIf_b25 f_X6_whatIf_b26
    exact ref_no (n := 1) (by omega) (by omega) M _ _
  by_cases c : setOk a v
  · by_cases d : 0 ≤ w ∧ w ≤ 7
    · obtain ⟨j, rfl, hj⟩ : ∃ j : Nat, a = (j : Int) ∧ j < 6 := ⟨a.toNat, by omega, by omega⟩
      obtain ⟨u, rfl⟩ : ∃ u : Nat, w = (u : Int) := ⟨w.toNat, by omega⟩
      have hu : u < 8 := by omega
      have hp := pset_Ok hP c
      refine Agree.yes (D' := D) hD (iz (nWhole (pset (dP D) j v) u)) (fun M hM => ?_) (fun M hM => ?_)
      · unfold f_X5_whatIf
        rw [allowsSetting_eq a1 a2 v1 v2, ob_some, if_neg (by rw [bz_t c]; decide), up, if_pos (by omega), oe_ok]
        refine Tot.ob ((c_take hM hD).mono ?_)
        intro ⟨_, M2⟩ ⟨s2, h2, o2⟩
        have s2 : StRep M2 1 (dP D) := s2
        have h2 : CRel M2 D := h2
        have o2 : Off CT M M2 := o2
        dsimp only
        rw [changeSetting_eq hj, ob_some]
        have o3 : Off (RSt 1) M2 (mw M2 (iSt 1 + 1) j (iz v)) := Off.rf.put ⟨by omega, by omega⟩
        refine Tot.ob ((c_num (h2.tri o3) (st_set s2 j v) hp.1 hu).mono ?_)
        intro ⟨y, M4⟩ ⟨b1, _, b3, b4⟩
        exact Tot.mk ⟨congrArg _ b1, b3, ((o2.tr (o3.wk (fun d hd => Or.inl hd))).tr b4).wk CI_CT⟩
      · unfold f_X6_whatIf
        rw [misSetting_eq a1 a2 v1 v2, ob_some, if_neg (by rw [bz_t c]; decide), mi, ob_some, if_neg (by rw [bz_t d]; decide)]
        unfold f_X6_whatIf_b26
        rw [ref_yes]
        have o0 : Off MI M (mw M 27 0 0) := Off.rf.put (by unfold MI; omega)
        have h0 := hM.put (j := 0) (v := 0) (Or.inl rfl)
        refine Tot.ob ((m_copy (r := 32) (Or.inr rfl) h0 hD).mono ?_)
        intro ⟨_, M2⟩ ⟨s2, h2, e2, o2⟩
        have s2 : PR M2 32 0 (dP D) := s2
        have h2 : MRel M2 D := h2
        have e2 : M2 27 = mw M 27 0 0 27 := e2
        have o2 : Off MI (mw M 27 0 0) M2 := o2
        dsimp only
        rw [if_pos (inb_n (n := j) (by omega) (by omega)), cl_n (n := j) (by omega)]
        have o3 : Off (fun d => d = 32) M2 (mw M2 32 j (iz v)) := Off.rf.put rfl
        have t3 := h2.tri (Or.inr rfl) o3
        refine Tot.ob ((m_num (r := 32) (by omega) t3.1 (pr_set s2 j hj v) hp hu).mono ?_)
        intro ⟨y, M4⟩ ⟨b1, _, b3, b4, b5⟩
        have b4 : M4 27 = mw M2 32 j (iz v) 27 := b4
        refine Tot.mk ⟨b1, ?_, b3, ((o0.tr o2).tr t3.2.2).tr b5⟩
        show M4 27 0 = 0
        rw [b4, t3.2.1, e2, mw_at, if_pos rfl]
    · refine Agree.no hD 0 1 rfl (by omega) (fun M hM => ?_) (fun M hM => ?_)
      · unfold f_X5_whatIf
        rw [allowsSetting_eq a1 a2 v1 v2, ob_some, if_neg (by rw [bz_t c]; decide), up, if_neg (by omega), oe_er]
      · unfold f_X6_whatIf
        rw [misSetting_eq a1 a2 v1 v2, ob_some, if_neg (by rw [bz_t c]; decide), mi, ob_some, if_pos (show bz (0 ≤ w ∧ w ≤ 7) = 0 from bz_f d)]
        exact ⟨_, no M⟩
  · refine Agree.no hD 0 1 rfl (by omega) (fun M hM => ?_) (fun M hM => ?_)
    · unfold f_X5_whatIf
      rw [allowsSetting_eq a1 a2 v1 v2, ob_some, if_pos (show bz (setOk a v) = 0 from bz_f c)]
    · unfold f_X6_whatIf
      rw [misSetting_eq a1 a2 v1 v2, ob_some, if_pos (show bz (setOk a v) = 0 from bz_f c)]
      exact ⟨_, no M⟩
/-! THE SMALLEST SPAN -/
def spn (P : Pg) (v : Int) : Pg := pset (pset P 0 v) 1 v
theorem spn_Ok {P : Pg} (h : PgOk P) {v : Int} (h1 : 1 ≤ v) (h2 : v ≤ 24) : PgOk (spn P v) := pset_Ok (j := 1) (pset_Ok (j := 0) h (Or.inl ⟨rfl, h1, h2⟩)) (Or.inr (Or.inl ⟨rfl, h1, h2⟩))
noncomputable def spS (P : Pg) : Nat → Int
  | 0 => -9
  | n + 1 => if iz (nWhole (spn P ((24 : Int) - n)) 3) = 0 then (24 : Int) - n else spS P n
theorem spS_at (P : Pg) {i : Nat} (h1 : 1 ≤ i) (h2 : i < 25) : spS P (25 - i) = if iz (nWhole (spn P i) 3) = 0 then (i : Int) else spS P (25 - (i + 1)) := by
  have e : 25 - i = (24 - i) + 1 := by omega
  rw [e]
  show (if iz (nWhole (spn P ((24 : Int) - ((24 - i : Nat) : Int))) 3) = 0 then (24 : Int) - ((24 - i : Nat) : Int) else spS P (24 - i)) = _
  rw [show (24 : Int) - ((24 - i : Nat) : Int) = (i : Int) by omega, show 25 - (i + 1) = 24 - i by omega]
theorem g_smallest (D : Ds) (hD : DOk D) : AgreeD f_X5_smallestSpan f_X6_smallestSpan D := by
  have hP := hD.2.2.1
  have i1 := iSt_eq 1
  refine ⟨D, iz (spS (dP D) 24), hD, fun M hM => ?_, fun M hM => ?_⟩
  · unfold f_X5_smallestSpan
    refine Tot.ob ((c_take hM hD).mono ?_)
    intro ⟨_, M2⟩ ⟨s2, h2, o2⟩
    have s2 : StRep M2 1 (dP D) := s2
    have h2 : CRel M2 D := h2
    have o2 : Off CT M M2 := o2
    rw [show (1 : Int32) = iz ((1 : Nat) : Int) from rfl]
    refine up_tot 25 (fun i M' => 1 ≤ i ∧ spS (dP D) 24 = spS (dP D) (25 - i) ∧ CRel M' D ∧ Off CT M M' ∧ ∃ E : Nat → Int, (∀ j, 2 ≤ j → E j = gE (dP D) j) ∧ StRep M' 1 (E, (dP D).2)) ?_ ?_ 9999 1 M2 (by omega) ⟨by omega, rfl, h2, o2, gE (dP D), fun _ _ => rfl, s2⟩ (by omega)
    · intro K i M' hi ⟨h1, e1, hc, ho, E, hE, hs⟩ hK
      unfold f_X5_smallestSpan_b13
      rw [if_neg (by rw [show (24 : Int32) = iz ((24 : Nat) : Int) from rfl, ltz (by omega) (by omega)]; omega), show (0 : Int32) = iz ((0 : Nat) : Int) from rfl]
      refine up_tot 2 (fun m M'' => CRel M'' D ∧ Off CT M M'' ∧ ∃ E : Nat → Int, (∀ j, 2 ≤ j → E j = gE (dP D) j) ∧ (∀ j, j < m → E j = i) ∧ StRep M'' 1 (E, (dP D).2)) ?_ ?_ 9999 0 M' (by omega) ⟨hc, ho, E, hE, fun j hj => absurd hj (Nat.not_lt_zero j), hs⟩ (by omega)
      · intro K2 m M3 hm ⟨hc3, ho3, E3, hE3, hm3, hs3⟩ hK2
        unfold f_X5_smallestSpan_b21
        rw [if_neg (by rw [show (2 : Int32) = iz ((2 : Nat) : Int) from rfl, lez (by omega) (by omega)]; omega), changeSetting_eq (by omega), ob_some, a1z]
        have o3 : Off (RSt 1) M3 (mw M3 (iSt 1 + 1) m (iz (i : Int))) := Off.rf.put ⟨by omega, by omega⟩
        refine hK2 _ ⟨hc3.tri o3, ho3.tr (o3.wk (fun d hd => Or.inl hd)), fun j' => if j' = m then (i : Int) else E3 j', fun j hj => ?_, fun j hj => ?_, st_set hs3 m i⟩
        · show (if j = m then (i : Int) else E3 j) = _
          rw [if_neg (by omega)]; exact hE3 j hj
        · show (if j = m then (i : Int) else E3 j) = _
          by_cases e : j = m
          · rw [if_pos e]
          · rw [if_neg e]; exact hm3 j (by omega)
      · intro K2 M3 ⟨hc3, ho3, E3, hE3, hm3, hs3⟩
        unfold f_X5_smallestSpan_b21 f_X5_smallestSpan_b41
        rw [if_pos (by decide), show (3 : Int32) = iz ((3 : Nat) : Int) from rfl]
        have st : StRep M3 1 (spn (dP D) i) := hs3.to rfl rfl (fun j hj => by
          show (if j = 1 then (i : Int) else if j = 0 then (i : Int) else gE (dP D) j) = E3 j
          by_cases j1 : j = 1
          · rw [if_pos j1]; exact (hm3 j (by omega)).symm
          · rw [if_neg j1]
            by_cases j0 : j = 0
            · rw [if_pos j0]; exact (hm3 j (by omega)).symm
            · rw [if_neg j0]; exact (hE3 j (by omega)).symm) (fun _ _ _ _ => rfl)
        refine Tot.ob ((c_num hc3 st (spn_Ok hP (by omega) (by omega)).1 (by omega)).mono ?_)
        intro ⟨y, M4⟩ ⟨b1, b2, b3, b4⟩
        have b1 : y = iz (nWhole (spn (dP D) i) 3) := b1
        have b2 : StRep M4 1 (spn (dP D) i) := b2
        have es := spS_at (dP D) h1 hi
        rw [← b1] at es
        show Tot (if y = 0 then some (iz (i : Int), M4) else K (iz (i : Int) + 1) M4) _
        by_cases z : y = 0
        · rw [if_pos z] at es ⊢
          exact Tot.mk ⟨by rw [e1, es], b3, (ho3.tr b4).wk CI_CT⟩
        · rw [if_neg z] at es ⊢
          rw [a1z]
          refine hK _ ⟨by omega, e1.trans es, b3, ho3.tr b4, gE (spn (dP D) i), fun j hj => ?_, b2⟩
          show (if j = 1 then (i : Int) else if j = 0 then (i : Int) else gE (dP D) j) = _
          rw [if_neg (by omega), if_neg (by omega)]
    · intro K M' ⟨h1, e1, hc, ho, _⟩
      unfold f_X5_smallestSpan_b13
      rw [if_pos (by decide)]
      exact Tot.mk ⟨by rw [e1]; rfl, hc, ho.wk CI_CT⟩
  · unfold f_X6_smallestSpan
    have o0 : Off MI M (mw M 27 0 0) := Off.rf.put (by unfold MI; omega)
    refine Tot.ob ((m_copy (r := 32) (Or.inr rfl) (hM.put (j := 0) (v := 0) (Or.inl rfl)) hD).mono ?_)
    intro ⟨_, M2⟩ ⟨s2, h2, _, o2⟩
    have s2 : PR M2 32 0 (dP D) := s2
    have h2 : MRel M2 D := h2
    have o2 : Off MI (mw M 27 0 0) M2 := o2
    rw [show (1 : Int32) = iz ((1 : Nat) : Int) from rfl]
    refine up_tot 25 (fun i M' => 1 ≤ i ∧ spS (dP D) 24 = spS (dP D) (25 - i) ∧ MRel M' D ∧ Off MI M M' ∧ ∃ E : Nat → Int, (∀ j, 2 ≤ j → E j = gE (dP D) j) ∧ PR M' 32 0 (E, (dP D).2)) ?_ ?_ 9999 1 M2 (by omega) ⟨by omega, rfl, h2, o0.tr o2, gE (dP D), fun _ _ => rfl, s2⟩ (by omega)
    · intro K i M' hi ⟨h1, e1, hc, ho, E, hE, hs⟩ hK
      unfold f_X6_smallestSpan_b20
      rw [if_neg (by rw [show (24 : Int32) = iz ((24 : Nat) : Int) from rfl, ltz (by omega) (by omega)]; omega), if_pos (by decide), if_pos (by decide), c0, c1, show (3 : Int32) = iz ((3 : Nat) : Int) from rfl]
      have st := pr_set (pr_set hs 0 (by omega) i) 1 (by omega) i
      have st : PR (mw (mw M' 32 0 (iz (i : Int))) 32 1 (iz (i : Int))) 32 0 (spn (dP D) i) := st.to rfl rfl (fun j hj => by
          show (if j = 1 then (i : Int) else if j = 0 then (i : Int) else gE (dP D) j) = (if j = 1 then (i : Int) else if j = 0 then (i : Int) else E j)
          by_cases j1 : j = 1
          · rw [if_pos j1, if_pos j1]
          · rw [if_neg j1, if_neg j1]
            by_cases j0 : j = 0
            · rw [if_pos j0, if_pos j0]
            · rw [if_neg j0, if_neg j0]; exact (hE j (by omega)).symm) (fun _ _ _ _ => rfl)
      have o3 : Off (fun d => d = 32) M' (mw (mw M' 32 0 (iz (i : Int))) 32 1 (iz (i : Int))) := fun d hd => (mw_ne hd).trans (mw_ne hd)
      have t3 := hc.tri (Or.inr rfl) o3
      refine Tot.ob ((m_num (r := 32) (by omega) t3.1 st (spn_Ok hP (by omega) (by omega)) (by omega)).mono ?_)
      intro ⟨y, M4⟩ ⟨b1, b2, b3, _, b4⟩
      have b1 : y = iz (nWhole (spn (dP D) i) 3) := b1
      have b2 : PR M4 32 0 (spn (dP D) i) := b2
      have es := spS_at (dP D) h1 hi
      rw [← b1] at es
      show Tot (if y = 0 then some (iz (i : Int), M4) else K (iz (i : Int) + 1) M4) _
      by_cases z : y = 0
      · rw [if_pos z] at es ⊢
        exact Tot.mk ⟨by rw [e1, es], b3, (ho.tr t3.2.2).tr b4⟩
      · rw [if_neg z] at es ⊢
        rw [a1z]
        refine hK _ ⟨by omega, e1.trans es, b3, (ho.tr t3.2.2).tr b4, gE (spn (dP D) i), fun j hj => ?_, b2⟩
        show (if j = 1 then (i : Int) else if j = 0 then (i : Int) else gE (dP D) j) = _
        rw [if_neg (by omega), if_neg (by omega)]
    · intro K M' ⟨h1, e1, hc, ho, _⟩
      unfold f_X6_smallestSpan_b20
      rw [if_pos (by decide)]
      exact Tot.mk ⟨by rw [e1]; rfl, hc, ho⟩
/-! THE DEAREST STAFF -/
theorem psil_Ok {P : Pg} (h : PgOk P) (s : Nat) : PgOk (psil P s) := by
  have t : ∀ s' b, gC (psil P s) s' b = if s' = s then -9 else gC P s' b := fun _ _ => rfl
  refine ⟨⟨h.1.1, h.1.2.1, fun s' b hs hb => ?_⟩, fun s' b hs hb hz => ?_⟩
  · rw [t]
    by_cases e : s' = s
    · rw [if_pos e]; exact Or.inl rfl
    · rw [if_neg e]; exact h.1.2.2 s' b hs hb
  · rw [t] at hz ⊢
    by_cases e : s' = s
    · rw [if_pos e] at hz; exact absurd hz (by decide)
    · rw [if_neg e] at hz ⊢; exact h.2 s' b hs hb hz
theorem nWhole0_rng {P : Pg} (h : PgW P) : 0 ≤ nWhole P 0 ∧ nWhole P 0 ≤ 3200 := by
  unfold nWhole
  have hB := h.1.2
  have := sg_le (f := fun b => shW P b 0) (a := 0) (b := 200) (n := gB P) (fun b hb => by
    show 0 ≤ shW P b 0 ∧ shW P b 0 ≤ 200
    unfold shW
    rw [if_pos rfl]
    exact co_rng h hb _ _)
  omega
noncomputable def dea (P : Pg) : Nat → Int × Int
  | 0 => (0, nWhole (psil P 0) 0)
  | n + 1 => if nWhole (psil P (n + 1)) 0 < (dea P n).2 then (((n + 1 : Nat) : Int), nWhole (psil P (n + 1)) 0) else dea P n
theorem dea_rng {P : Pg} (h : PgOk P) : ∀ n, (0 ≤ (dea P n).1 ∧ (dea P n).1 ≤ n) ∧ 0 ≤ (dea P n).2 ∧ (dea P n).2 ≤ 3200
  | 0 => ⟨⟨by show (0 : Int) ≤ 0; omega, by show (0 : Int) ≤ ((0 : Nat) : Int); omega⟩, nWhole0_rng (psil_Ok h 0).1⟩
  | n + 1 => by
    have ih := dea_rng h n
    have := nWhole0_rng (psil_Ok h (n + 1)).1
    unfold dea
    by_cases c : nWhole (psil P (n + 1)) 0 < (dea P n).2
    · rw [if_pos c]
      exact ⟨⟨by show (0 : Int) ≤ ((n + 1 : Nat) : Int); omega, by show ((n + 1 : Nat) : Int) ≤ ((n + 1 : Nat) : Int); omega⟩, this⟩
    · rw [if_neg c]
      exact ⟨⟨ih.1.1, by omega⟩, ih.2⟩
theorem g_dearest (D : Ds) (hD : DOk D) : AgreeD f_X5_dearest f_X6_dearest D := by
  have hP := hD.2.2.1
  have hS := hP.1.1.1
  have i1 := iSt_eq 1
  refine ⟨D, iz (dea (dP D) (gS (dP D) - 1)).1, hD, fun M hM => ?_, fun M hM => ?_⟩
  · unfold f_X5_dearest
    have e0 : ∀ x : Int32 × Int32, True := fun _ => trivial
    show Tot (lq3 f_X5_dearest_b7 9999 0 1000000 (iz ((0 : Nat) : Int)) M) _
    refine up3_tot (gS (dP D)) (fun i v1 v2 M' => CRel M' D ∧ Off CT M M' ∧ (i = 0 → v2 = 1000000) ∧ (0 < i → v1 = iz (dea (dP D) (i - 1)).1 ∧ v2 = iz (dea (dP D) (i - 1)).2)) ?_ ?_ 9999 0 _ _ M (by omega) ⟨hM, Off.rf, fun _ => rfl, fun z => absurd z (Nat.not_lt_zero _)⟩ (by omega)
    · intro K i v1 v2 M' hi ⟨hc, ho, hz, hp⟩ hK
      unfold f_X5_dearest_b7
      rw [hc.2.1.1, if_neg (by rw [lez (by omega) (by omega)]; omega)]
      refine Tot.ob ((c_take hc hD).mono ?_)
      intro ⟨_, M2⟩ ⟨s2, h2, o2⟩
      have s2 : StRep M2 1 (dP D) := s2
      have h2 : CRel M2 D := h2
      have o2 : Off CT M' M2 := o2
      refine Tot.ob ((silenceStaff_tot s2 hP.1.1 hi).mono ?_)
      intro ⟨_, M3⟩ ⟨s3, o3⟩
      have s3 : StRep M3 1 (psil (dP D) i) := s3
      have o3 : Off (RSt 1) M2 M3 := o3
      refine Tot.ob ((c_num (w := 0) (h2.tri o3) s3 (psil_Ok hP i).1 (by omega)).mono ?_)
      intro ⟨y, M4⟩ ⟨b1, b2, b3, b4⟩
      have b1 : y = iz (nWhole (psil (dP D) i) 0) := b1
      have b4 : Off CT M3 M4 := b4
      have oo : Off CT M M4 := ((ho.tr o2).tr (o3.wk (fun d hd => Or.inl hd))).tr b4
      have hr := nWhole0_rng (psil_Ok hP i).1
      show Tot (if v2 ≤ y then K v1 v2 (iz (i : Int) + 1) M4 else K (iz (i : Int)) y (iz (i : Int) + 1) M4) _
      rw [a1z]
      by_cases z : i = 0
      · subst z
        rw [hz rfl, b1, if_neg (by rw [show (1000000 : Int32) = iz 1000000 from rfl, iz_le (by omega) (by omega) (by omega) (by omega)]; omega)]
        exact hK _ _ _ ⟨b3, oo, fun z => absurd z (by omega), fun _ => ⟨rfl, rfl⟩⟩
      · obtain ⟨q1, q2⟩ := hp (by omega)
        have dr := dea_rng hP (i - 1)
        have ed : dea (dP D) i = if nWhole (psil (dP D) i) 0 < (dea (dP D) (i - 1)).2 then ((i : Int), nWhole (psil (dP D) i) 0) else dea (dP D) (i - 1) := by
          obtain ⟨n, rfl⟩ : ∃ n, i = n + 1 := ⟨i - 1, by omega⟩
          rfl
        rw [q1, q2, b1]
        by_cases c : nWhole (psil (dP D) i) 0 < (dea (dP D) (i - 1)).2
        · rw [if_neg (by rw [iz_le (by omega) (by omega) (by omega) (by omega)]; omega)]
          refine hK _ _ _ ⟨b3, oo, fun z => absurd z (by omega), fun _ => ?_⟩
          rw [show i + 1 - 1 = i by omega, ed, if_pos c]
          exact ⟨rfl, rfl⟩
        · rw [if_pos (by rw [iz_le (by omega) (by omega) (by omega) (by omega)]; omega)]
          refine hK _ _ _ ⟨b3, oo, fun z => absurd z (by omega), fun _ => ?_⟩
          rw [show i + 1 - 1 = i by omega, ed, if_neg c]
          exact ⟨rfl, rfl⟩
    · intro K v1 v2 M' ⟨hc, ho, _, hp⟩
      unfold f_X5_dearest_b7
      rw [hc.2.1.1, if_pos (Int32.le_refl _)]
      exact Tot.mk ⟨(hp (by omega)).1, hc, ho.wk CI_CT⟩
  · unfold f_X6_dearest
    have o0 : Off MI M (mw M 27 0 0) := Off.rf.put (by unfold MI; omega)
    have i6 : inb 6 72 := by decide
    show Tot (lq3 f_X6_dearest_b12 9999 (-9) 0 (iz ((0 : Nat) : Int)) (mw M 27 0 0)) _
    refine up3_tot (gS (dP D)) (fun i v1 v2 M' => MRel M' D ∧ Off MI M M' ∧ (i = 0 → v1 = -9) ∧ (0 < i → v1 = iz (dea (dP D) (i - 1)).1 ∧ v2 = iz (dea (dP D) (i - 1)).2)) ?_ ?_ 9999 0 _ _ _ (by omega) ⟨hM.put (j := 0) (v := 0) (Or.inl rfl), o0, fun _ => rfl, fun z => absurd z (Nat.not_lt_zero _)⟩ (by omega)
    · intro K i v1 v2 M' hi ⟨hc, ho, hz, hp⟩ hK
      unfold f_X6_dearest_b12
      rw [if_pos i6, c6, hc.2.1.S, if_neg (by rw [lez (by omega) (by omega)]; omega)]
      refine Tot.ob ((m_copy (r := 32) (Or.inr rfl) hc hD).mono ?_)
      intro ⟨_, M2⟩ ⟨s2, h2, _, o2⟩
      have s2 : PR M2 32 0 (dP D) := s2
      have h2 : MRel M2 D := h2
      have o2 : Off MI M' M2 := o2
      rw [show (0 : Int32) = iz ((0 : Nat) : Int) from rfl]
      refine up_tot 16 (fun b M3 => Off (fun d => d = 32) M2 M3 ∧ PR M3 32 0 (pcel (dP D) (fun s' b' => if s' = i ∧ b' < b then -9 else gC (dP D) s' b'))) ?_ ?_ 9999 0 M2 (by omega) ⟨Off.rf, s2.to rfl rfl (fun _ _ => rfl) (fun s' b' _ _ => by show (if s' = i ∧ b' < 0 then -9 else gC (dP D) s' b') = gC (dP D) s' b'; rw [if_neg (by omega)])⟩ (by omega)
      · intro K2 b M3 hb ⟨q1, q2⟩ hK2
        unfold f_X6_dearest_b39
        rw [if_neg (by rw [show (16 : Int32) = iz ((16 : Nat) : Int) from rfl, lez (by omega) (by omega)]; omega), at_eq, ob_some, l8, if_pos (inb_n (n := 8 + (16 * i + b)) (by omega) (by omega)), cl_n (n := 8 + (16 * i + b)) (by omega), a1z, show (-9 : Int32) = iz (-9) from rfl]
        refine hK2 _ ⟨q1.put rfl, ?_⟩
        obtain ⟨p1, p2, p3, p4⟩ := q2
        refine ⟨fun j hj => ?_, ?_, ?_, fun s' b' hs hb' => ?_⟩
        · rw [mw_at, if_neg (by omega)]; exact p1 j hj
        · rw [mw_at, if_neg (by omega)]; exact p2
        · rw [mw_at, if_neg (by omega)]; exact p3
        · have hb'' : b' < gB (dP D) := hb'
          have hB := hP.1.1.2
          rw [mw_at]
          show (if 0 + (8 + (16 * s' + b')) = 8 + (16 * i + b) then iz (-9) else M3 32 (0 + (8 + (16 * s' + b')))) = iz (if s' = i ∧ b' < b + 1 then -9 else gC (dP D) s' b')
          by_cases e : s' = i ∧ b' = b
          · rw [if_pos (by omega), if_pos (by omega)]
          · rw [if_neg (by omega), p4 s' b' hs hb']
            show iz (if s' = i ∧ b' < b then -9 else gC (dP D) s' b') = _
            by_cases e2 : s' = i ∧ b' < b
            · rw [if_pos e2, if_pos (by omega)]
            · rw [if_neg e2, if_neg (by omega)]
      · intro K2 M3 ⟨q1, q2⟩
        unfold f_X6_dearest_b39 f_X6_dearest_b68
        have hB := hP.1.1.2
        have s3 : PR M3 32 0 (psil (dP D) i) := q2.to rfl rfl (fun _ _ => rfl) (fun s' b' _ hb' => by
          have hb' : b' < gB (dP D) := hb'
          show (if s' = i then -9 else gC (dP D) s' b') = if s' = i ∧ b' < 16 then -9 else gC (dP D) s' b'
          by_cases e : s' = i
          · rw [if_pos e, if_pos (by omega)]
          · rw [if_neg e, if_neg (by omega)])
        rw [if_pos (by decide)]
        have t3 := h2.tri (Or.inr rfl) q1
        refine Tot.ob ((m_num (r := 32) (w := 0) (by omega) t3.1 s3 (psil_Ok hP i) (by omega)).mono ?_)
        intro ⟨y, M4⟩ ⟨b1, b2, b3, _, b4⟩
        have b1 : y = iz (nWhole (psil (dP D) i) 0) := b1
        have b4 : Off MI M3 M4 := b4
        have oo : Off MI M M4 := ((ho.tr o2).tr t3.2.2).tr b4
        have hr := nWhole0_rng (psil_Ok hP i).1
        have m96 : ∀ (a b : Int32) (s0 : Int32), f_X6_dearest_b96 a b (iz (i : Int)) y K s0 M4 = if s0 = 0 then K a b (iz ((i + 1 : Nat) : Int)) M4 else K (iz (i : Int)) y (iz ((i + 1 : Nat) : Int)) M4 := fun a b s0 => by
          unfold f_X6_dearest_b96 f_X6_dearest_b108
          rw [a1z]
          by_cases c : s0 = 0
          · rw [if_pos c, if_pos c, if_pos c]
          · rw [if_neg c, if_neg c, if_neg c]
        have take : nWhole (psil (dP D) i) 0 = (dea (dP D) i).2 → (dea (dP D) i).1 = i → Tot (K (iz (i : Int)) y (iz ((i + 1 : Nat) : Int)) M4) (fun x => x.1 = iz (dea (dP D) (gS (dP D) - 1)).1 ∧ MRel x.2 D ∧ Off MI M x.2) := fun x1 x2 => by
          refine hK _ _ _ ⟨b3, oo, fun z => absurd z (by omega), fun _ => ?_⟩
          rw [show i + 1 - 1 = i by omega, x2, ← x1]
          exact ⟨rfl, b1⟩
        show Tot (if v1 = -9 then f_X6_dearest_b91 v1 v2 (iz (i : Int)) y K M4 else if v2 ≤ y then f_X6_dearest_b96 v1 v2 (iz (i : Int)) y K (iz ((0 : Nat) : Int)) M4 else f_X6_dearest_b91 v1 v2 (iz (i : Int)) y K M4) _
        unfold f_X6_dearest_b91
        rw [m96, m96, if_neg (show ¬ ((1 : Int32) = 0) by decide), if_pos (show iz ((0 : Nat) : Int) = 0 from rfl)]
        by_cases z : i = 0
        · rw [if_pos (hz z)]
          refine take ?_ ?_
          · rw [z]; rfl
          · rw [z]; rfl
        · obtain ⟨p1, p2⟩ := hp (by omega)
          have dr := dea_rng hP (i - 1)
          have ed : dea (dP D) i = if nWhole (psil (dP D) i) 0 < (dea (dP D) (i - 1)).2 then ((i : Int), nWhole (psil (dP D) i) 0) else dea (dP D) (i - 1) := by
            obtain ⟨n, rfl⟩ : ∃ n, i = n + 1 := ⟨i - 1, by omega⟩
            rfl
          rw [if_neg (by rw [p1, show (-9 : Int32) = iz (-9) from rfl, iz_eq (by omega) (by omega) (by omega) (by omega)]; omega)]
          by_cases c : nWhole (psil (dP D) i) 0 < (dea (dP D) (i - 1)).2
          · rw [if_pos c] at ed
            rw [if_neg (by rw [p2, b1, iz_le (by omega) (by omega) (by omega) (by omega)]; omega)]
            exact take (by rw [ed]) (by rw [ed])
          · rw [if_neg c] at ed
            rw [if_pos (by rw [p2, b1, iz_le (by omega) (by omega) (by omega) (by omega)]; omega)]
            refine hK _ _ _ ⟨b3, oo, fun z => absurd z (by omega), fun _ => ?_⟩
            rw [show i + 1 - 1 = i by omega, ed]
            exact ⟨p1, p2⟩
    · intro K v1 v2 M' ⟨hc, ho, _, hp⟩
      unfold f_X6_dearest_b12
      rw [if_pos i6, c6, hc.2.1.S, if_pos (Int32.le_refl _)]
      exact Tot.mk ⟨(hp (by omega)).1, hc, ho⟩
