/-- reading changes nothing that is kept -/
theorem c_make {M : Mem} {D : Ds} (h : CRel M D) (hD : DOk D) : Tot (f_X2_make 0 M) (fun x => RD x.2 (dP D) ∧ CRel x.2 D ∧ Off CI M x.2) := by
  have i0 := iSt_eq 0
  refine (make_tot h.2.1 hD.2.2.1.1 h.2.2.2.2 (by omega) (by omega)).mono ?_
  intro x ⟨a, b, c⟩
  exact ⟨a, h.tmp (c.wk (fun d hd => Or.inr hd)) b, c.wk (fun d hd => by unfold RRd at hd; unfold CI; omega)⟩
theorem m_lay {M : Mem} {D : Ds} (h : MRel M D) (hD : DOk D) : Tot (f_X6_lay 30 M) (fun x => LD x.2 (dP D) ∧ MRel x.2 D ∧ x.2 27 = M 27 ∧ Off MI M x.2) := by
  refine (lay_tot h.2.1 hD.2.2.1 rfl (by omega)).mono ?_
  intro x ⟨a, c⟩
  exact ⟨a, h.tmp (c.wk (fun d hd => by unfold RLy at hd; unfold MT; omega)), c 27 (by unfold RLy; omega), c.wk (fun d hd => by unfold RLy at hd; unfold MI; omega)⟩
theorem reqUpTo {M : Mem} {n : Nat} (hn : n < 100) {v : Int} (v1 : -2147483648 ≤ v) (v2 : v < 2147483648) : f_X5_requireUpTo (iz n) (iz v) M = if 0 ≤ v ∧ v ≤ n then some (.ok (), M) else some (.error 0, M) := by
  unfold f_X5_requireUpTo
  have e1 : (iz v < 0) = (v < 0) := by rw [show (0 : Int32) = iz 0 from rfl, iz_lt v1 v2 (by omega) (by omega)]
  have e2 : (iz v ≤ iz (n : Int)) = (v ≤ n) := iz_le v1 v2 (by omega) (by omega)
  by_cases c : v < 0
  · rw [if_pos (by rw [e1]; exact c), if_neg (by omega)]
  · rw [if_neg (by rw [e1]; exact c)]
    by_cases d : v ≤ n
    · rw [if_pos (by rw [e2]; exact d), if_pos (by omega)]
    · rw [if_neg (by rw [e2]; exact d), if_neg (by omega)]
theorem g_whole (D : Ds) (hD : DOk D) (x : Int32) : Agree h_L_whole (f_X5_whole x) (f_X6_whole x) D := by
  obtain ⟨v, rfl, v1, v2⟩ := izself x
  have mi : ∀ M, f_X6_in (Int32.toInt64 (iz v)) 0 7 M = some (bz (0 ≤ v ∧ v ≤ 7), M) := fun M => by
    rw [show (0 : Int64) = Int32.toInt64 (iz 0) by decide, show (7 : Int64) = Int32.toInt64 (iz 7) by decide, in_eq M v1 v2 (by omega) (by omega) (by omega) (by omega)]
  have up : ∀ M, f_X5_requireUpTo 7 (iz v) M = if 0 ≤ v ∧ v ≤ (7 : Nat) then some (.ok (), M) else some (.error 0, M) := fun M => reqUpTo (n := 7) (by omega) v1 v2
  by_cases c : 0 ≤ v ∧ v ≤ 7
  · obtain ⟨w, rfl⟩ : ∃ w : Nat, v = (w : Int) := ⟨v.toNat, by omega⟩
    have hw : w < 8 := by omega
    refine Agree.yes (D' := D) hD (iz (nWhole (dP D) w)) (fun M hM => ?_) (fun M hM => ?_)
    · unfold f_X5_whole
      rw [up, if_pos (by omega), oe_ok]
      refine Tot.ob ((c_make hM hD).mono ?_)
      intro ⟨_, M2⟩ ⟨a, b, o⟩
      have a : RD M2 (dP D) := a
      show Tot (ob (f_X2_numberOfWhole (iz (w : Int)) M2) _) _
      rw [numberOfWhole_eq a hD.2.2.1.1 hw, ob_some]
      exact Tot.mk ⟨rfl, b, o⟩
    · unfold f_X6_whole
      rw [mi, ob_some, if_neg (by rw [bz_t c]; decide)]
      unfold f_X6_whole_b18
      rw [ref_yes]
      have o0 : Off MI M (mw M 27 0 0) := Off.rf.put (by unfold MI; omega)
      have h0 := hM.put (j := 0) (v := 0) (Or.inl rfl)
      refine Tot.ob ((wholeOf_tot h0.2.1 hD.2.2.1 rfl (by omega) hw).mono ?_)
      intro ⟨y, M2⟩ ⟨a, _, o⟩
      have o : Off RLy (mw M 27 0 0) M2 := o
      refine Tot.mk ⟨a, ?_, h0.tmp (o.wk (fun d hd => by unfold RLy at hd; unfold MT; omega)), o0.tr (o.wk (fun d hd => by unfold RLy at hd; unfold MI; omega))⟩
      show M2 27 0 = 0
      rw [o 27 (by unfold RLy; omega), mw_at, if_pos rfl]
  · refine Agree.no hD 0 1 rfl (by omega) (fun M hM => ?_) (fun M hM => ?_)
    · unfold f_X5_whole
      rw [up, if_neg (by omega), oe_er]
    · unfold f_X6_whole
      rw [mi, ob_some, if_pos (show bz (0 ≤ v ∧ v ≤ 7) = 0 from bz_f c)]
      unfold f_X6_whole_b18
      exact ⟨_, ref_no (n := 1) (by omega) (by omega) M _ _⟩
