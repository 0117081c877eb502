noncomputable def nAbout (P : Pg) (w : Nat) : Int := if w < 6 then gE P w else if w = 6 then gS P else if w = 7 then gB P else if w = 8 then nPits P (gS P) else nHolds P (gS P)
theorem g_about (D : Ds) (hD : DOk D) (z : Int32) : Agree h_L_about (f_X5_about z) (f_X6_about z) D := by
  obtain ⟨v, rfl, v1, v2⟩ := izself z
  have hP := hD.2.2.1
  have mi : ∀ M, f_X6_in (Int32.toInt64 (iz v)) 0 9 M = some (bz (0 ≤ v ∧ v ≤ 9), M) := fun M => by
    rw [show (0 : Int64) = Int32.toInt64 (iz 0) by decide, show (9 : Int64) = Int32.toInt64 (iz 9) by decide, in_eq M v1 v2 (by omega) (by omega) (by omega) (by omega)]
  have ev : ∀ n : Nat, n < 100 → (iz v = iz (n : Int)) = (v = n) := fun n hn => iz_eq v1 v2 (by omega) (by omega)
  have q6 : (iz v = 6) = (v = 6) := ev 6 (by omega)
  have q7 : (iz v = 7) = (v = 7) := ev 7 (by omega)
  have q8 : (iz v = 8) = (v = 8) := ev 8 (by omega)
  have q9 : (iz v = 9) = (v = 9) := ev 9 (by omega)
  have l0 : (iz v < 0) = (v < 0) := by rw [show (0 : Int32) = iz 0 from rfl, iz_lt v1 v2 (by omega) (by omega)]
  have l6 : ((6 : Int32) ≤ iz v) = (6 ≤ v) := by rw [show (6 : Int32) = iz 6 from rfl, iz_le (by omega) (by omega) v1 v2]
  have l8 : ((8 : Int32) ≤ iz v) = (8 ≤ v) := by rw [show (8 : Int32) = iz 8 from rfl, iz_le (by omega) (by omega) v1 v2]
  by_cases c : 0 ≤ v ∧ v ≤ 9
  · obtain ⟨w, rfl⟩ : ∃ w : Nat, v = (w : Int) := ⟨v.toNat, by omega⟩
    refine Agree.yes (D' := D) hD (iz (nAbout (dP D) w)) (fun M hM => ?_) (fun M hM => ?_)
    · have fin : ∀ r : Int32, r = iz (nAbout (dP D) w) → Tot (some ((.ok r : Except Nat Int32), M)) (fun x => x.1 = .ok (iz (nAbout (dP D) w)) ∧ CRel x.2 D ∧ Off CI M x.2) := fun r hr => Tot.mk ⟨by rw [hr], hM, Off.rf⟩
      unfold f_X5_about
      rw [if_neg (by rw [l0]; omega)]
      by_cases c6 : w < 6
      · rw [if_neg (by rw [l6]; omega), settingAt_eq hM.2.1 c6, ob_some]
        exact fin _ (by unfold nAbout; rw [if_pos c6])
      · rw [if_pos (by rw [l6]; omega)]
        unfold f_X5_about_b19
        by_cases w6 : w = 6
        · rw [if_pos (by rw [q6]; omega), hM.2.1.1]
          exact fin _ (by unfold nAbout; rw [if_neg c6, if_pos w6])
        · rw [if_neg (by rw [q6]; omega)]
          by_cases w7 : w = 7
          · rw [if_pos (by rw [q7]; omega), hM.2.1.2.1]
            exact fin _ (by unfold nAbout; rw [if_neg c6, if_neg w6, if_pos w7])
          · rw [if_neg (by rw [q7]; omega)]
            by_cases w8 : w = 8
            · rw [if_pos (by rw [q8]; omega), countStruck_eq hM.2.1 hP.1, ob_some]
              exact fin _ (by unfold nAbout; rw [if_neg c6, if_neg w6, if_neg w7, if_pos w8])
            · rw [if_neg (by rw [q8]; omega), if_pos (by rw [q9]; omega), countHolds_eq hM.2.1 hP.1, ob_some]
              exact fin _ (by unfold nAbout; rw [if_neg c6, if_neg w6, if_neg w7, if_neg w8])
    · unfold f_X6_about
      rw [mi, ob_some, if_neg (by rw [bz_t c]; decide)]
      unfold f_X6_about_b18
      rw [ref_yes]
      have o0 : Off MI M (mw M 27 0 0) := Off.rf.put (by unfold MI; omega)
      have h0 := hM.put (j := 0) (v := 0) (Or.inl rfl)
      have fin : ∀ r : Int32, r = iz (nAbout (dP D) w) → Tot (some (r, mw M 27 0 0)) (fun x => x.1 = iz (nAbout (dP D) w) ∧ x.2 27 0 = 0 ∧ MRel x.2 D ∧ Off MI M x.2) := fun r hr => Tot.mk ⟨hr, by show mw M 27 0 0 27 0 = 0; rw [mw_at, if_pos rfl], h0, o0⟩
      by_cases c8 : w < 8
      · rw [if_neg (by rw [l8]; omega), if_pos (inb_n (n := w) (by omega) (by omega)), cl_n (n := w) (by omega)]
        refine fin _ ?_
        unfold nAbout
        by_cases c6 : w < 6
        · rw [if_pos c6]; exact h0.2.1.E c6
        · rw [if_neg c6]
          by_cases w6 : w = 6
          · rw [if_pos w6, w6]; exact h0.2.1.S
          · rw [if_neg w6, if_pos (by omega), show w = 7 by omega]; exact h0.2.1.B
      · rw [if_pos (by rw [l8]; omega)]
        unfold f_X6_about_b56
        by_cases w9 : w = 9
        · have := cellsLike_eq h0.2.1 hP.1 rfl (w := 1) (by omega)
          rw [if_pos (by rw [q9]; omega), show (1 : Int32) = iz ((1 : Nat) : Int) from rfl, this, ob_some]
          exact fin _ (by unfold nAbout; rw [if_neg (by omega), if_neg (show ¬ w < 6 by omega), if_neg (show ¬ w = 6 by omega), if_neg (show ¬ w = 7 by omega), if_neg (show ¬ w = 8 by omega)])
        · have := cellsLike_eq h0.2.1 hP.1 rfl (w := 0) (by omega)
          rw [if_neg (by rw [q9]; omega)]
          rw [show f_X6_cellsLike 30 0 (mw M 27 0 0) = _ from this, ob_some]
          exact fin _ (by unfold nAbout; rw [if_pos rfl, if_neg (show ¬ w < 6 by omega), if_neg (show ¬ w = 6 by omega), if_neg (show ¬ w = 7 by omega), if_pos (show w = 8 by omega)])
  · refine Agree.no hD 0 1 rfl (by omega) (fun M hM => ?_) (fun M hM => ?_)
    · unfold f_X5_about f_X5_about_b19
      rw [if_neg (show ¬ iz v = 6 by rw [q6]; omega), if_neg (show ¬ iz v = 7 by rw [q7]; omega), if_neg (show ¬ iz v = 8 by rw [q8]; omega), if_neg (show ¬ iz v = 9 by rw [q9]; omega)]
      by_cases d : v < 0
      · rw [if_pos (by rw [l0]; exact d)]
      · rw [if_neg (by rw [l0]; exact d), if_pos (by rw [l6]; omega)]
    · unfold f_X6_about
      rw [mi, ob_some, if_pos (show bz (0 ≤ v ∧ v ≤ 9) = 0 from bz_f c)]
      unfold f_X6_about_b18
      exact ⟨_, ref_no (n := 1) (by omega) (by omega) M _ _⟩
