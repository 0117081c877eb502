/-! WHAT A CALL ANSWERS, AND WHAT THE OBJECT IS BEHIND IT -/
def Cl (f : Mem → Option (Except Nat Int32 × Mem)) (D : Ds) (R : Except Nat Int32 × Ds) : Prop := DOk R.2 ∧ ∀ M, CRel M D → Tot (f M) (fun x => x.1 = R.1 ∧ CRel x.2 R.2 ∧ Off CI M x.2)
def ClD (f : Mem → Option (Int32 × Mem)) (D : Ds) (R : Int32 × Ds) : Prop := DOk R.2 ∧ ∀ M, CRel M D → Tot (f M) (fun x => x.1 = R.1 ∧ CRel x.2 R.2 ∧ Off CI M x.2)
theorem Cl.no {f : Mem → Option (Except Nat Int32 × Mem)} {D : Ds} (hD : DOk D) (e : Nat) (hc : ∀ M, CRel M D → f M = some (.error e, M)) : Cl f D (.error e, D) := ⟨hD, fun M hM => by rw [hc M hM]; exact Tot.mk ⟨rfl, hM, Off.rf⟩⟩
theorem Cl.yes {f : Mem → Option (Except Nat Int32 × Mem)} {D D' : Ds} (hD : DOk D') (v : Int32) (hc : ∀ M, CRel M D → Tot (f M) (fun x => x.1 = .ok v ∧ CRel x.2 D' ∧ Off CI M x.2)) : Cl f D (.ok v, D') := ⟨hD, hc⟩
theorem k_set (D : Ds) (hD : DOk D) {x0 : Int32} {a : Int} (hx0 : x0 = iz a) (a1 : -2147483648 ≤ a) (a2 : a < 2147483648) {y0 : Int32} {v : Int} (hy0 : y0 = iz v) (v1 : -2147483648 ≤ v) (v2 : v < 2147483648) : Cl (f_X5_set x0 y0) D (if setOk a v then (.ok (iz (gE (dP D) a.toNat)), dPut (dRem D) (pset (dP D) a.toNat v)) else (.error 0, D)) := by
  subst hx0 hy0
  by_cases c : setOk a v
  · rw [if_pos c]
    obtain ⟨j, rfl, hj⟩ : ∃ j : Nat, a = (j : Int) ∧ j < 6 := ⟨a.toNat, by omega, by omega⟩
    try simp only [Int.toNat_natCast]
    have hP := hD.2.2.1
    refine Cl.yes (D' := dPut (dRem D) (pset (dP D) j v)) (dPut_Ok (dRem_Ok hD) ⟨pset_W hP.1 c, hP.2⟩) (iz (gE (dP D) j)) (fun M hM => ?_)
    · unfold f_X5_set
      rw [allowsSetting_eq a1 a2 v1 v2, ob_some, if_neg (by rw [bz_t c]; decide)]
      refine (c_act hM hD _ (res := (.ok (iz (gE (dP D) j)) : Except Nat Int32)) (fun _ M2 h2 => ?_))
      rw [settingAt_eq h2 hj, ob_some, changeSetting_eq hj, ob_some]
      have o1 : Off (RSt 0) M2 (mw M2 (iSt 0 + 1) j (iz v)) := Off.rf.put ⟨by omega, by omega⟩
      exact Tot.mk ⟨rfl, st_set h2 j v, o1⟩
  · rw [if_neg c]
    refine Cl.no hD 0 (fun M hM => ?_)
    · unfold f_X5_set
      rw [allowsSetting_eq a1 a2 v1 v2, ob_some, if_pos (show bz (setOk a v) = 0 from bz_f c)]
theorem k_write (D : Ds) (hD : DOk D) {x0 : Int32} {s : Int} (hx0 : x0 = iz s) (s1 : -2147483648 ≤ s) (s2 : s < 2147483648) {y0 : Int32} {b : Int} (hy0 : y0 = iz b) (b1 : -2147483648 ≤ b) (b2 : b < 2147483648) {u0 : Int32} {v : Int} (hu0 : u0 = iz v) (v1 : -2147483648 ≤ v) (v2 : v < 2147483648) : Cl (f_X5_write x0 y0 u0) D (if (0 ≤ s ∧ s < gS (dP D)) ∧ 0 ≤ b ∧ b < gB (dP D) then (if v = 99 ∨ (-1 ≤ v ∧ v ≤ 60) then (if canW (dP D) s.toNat b.toNat v then (.ok (iz (gC (dP D) s.toNat b.toNat)), dPut (dRem D) (pwr (dP D) s.toNat b.toNat v)) else (.error 1, D)) else (.error 0, D)) else (.error 2, D)) := by
  subst hx0 hy0 hu0
  have hP := hD.2.2.1
  have e99 : (iz v = 99) = (v = 99) := by rw [show (99 : Int32) = iz 99 from rfl, iz_eq v1 v2 (by omega) (by omega)]
  have em1 : (iz v = -1) = (v = -1) := by rw [show (-1 : Int32) = iz (-1) from rfl, iz_eq v1 v2 (by omega) (by omega)]
  by_cases cc : (0 ≤ s ∧ s < gS (dP D)) ∧ 0 ≤ b ∧ b < gB (dP D)
  · rw [if_pos cc]
    obtain ⟨s', rfl⟩ : ∃ s' : Nat, s = (s' : Int) := ⟨s.toNat, by omega⟩
    try simp only [Int.toNat_natCast]
    obtain ⟨b', rfl⟩ : ∃ b' : Nat, b = (b' : Int) := ⟨b.toNat, by omega⟩
    try simp only [Int.toNat_natCast]
    have hs : s' < gS (dP D) := by omega
    have hb : b' < gB (dP D) := by omega
    by_cases cv : v = 99 ∨ (-1 ≤ v ∧ v ≤ 60)
    · rw [if_pos cv]
      by_cases cw : canW (dP D) s' b' v
      · rw [if_pos cw]
        -- it is written
        refine Cl.yes (D' := dPut (dRem D) (pwr (dP D) s' b' v)) (dPut_Ok (dRem_Ok hD) (pwr_Ok hP.1 (by omega))) (iz (gC (dP D) s' b')) (fun M hM => ?_)
        · have b58 : Tot (f_X5_write_b58 (iz (s' : Int)) (iz (b' : Int)) (iz v) M) (fun x => x.1 = .ok (iz (gC (dP D) s' b')) ∧ CRel x.2 (dPut (dRem D) (pwr (dP D) s' b' v)) ∧ Off CI M x.2) := by
            unfold f_X5_write_b58
            refine c_act hM hD _ (fun _ M2 h2 => ?_)
            rw [written_nat h2 hP.1.1 hs hb, ob_some]
            have go : ∀ w : Int, w = (if v < 0 then -9 else v) → Tot (f_X5_write_b97 (iz (gC (dP D) s' b')) (iz w) (iz (b' : Int)) (iz (s' : Int)) 0 M2) (fun y => y.1 = .ok (iz (gC (dP D) s' b')) ∧ StRep y.2 0 (pwr (dP D) s' b' v) ∧ Off (RSt 0) M2 y.2) := fun w hw => by
              unfold f_X5_write_b97
              rw [put_eq h2 hP.1.1 hs hb, ob_some]
              have hst := st_put h2 hP.1.1 hs hb w
              have hok : cOk w := by
                rw [hw]
                by_cases c : v < 0
                · rw [if_pos c]; exact Or.inl rfl
                · rw [if_neg c]; unfold cOk; omega
              refine Tot.ob ((dropLooseHolds_tot hst (pput_W hP.1 s' b' hok)).mono ?_)
              intro ⟨_, M3⟩ ⟨a, o⟩
              have o1 : Off (RSt 0) M2 (mw M2 (iSt 0 + 2) (s' * 16 + b') (iz w)) := Off.rf.put ⟨by omega, by omega⟩
              refine Tot.mk ⟨rfl, ?_, o1.tr o⟩
              unfold pwr
              rw [← hw]
              exact a
            by_cases c : v = -1
            · rw [if_pos (by rw [em1]; exact c), show (-9 : Int32) = iz (-9) from rfl]
              exact go (-9) (by rw [if_pos (by omega)])
            · rw [if_neg (by rw [em1]; exact c)]
              exact go v (by rw [if_neg (by omega)])
          have b32 : Tot (f_X5_write_b32 (iz (s' : Int)) (iz (b' : Int)) (iz v) M) (fun x => x.1 = .ok (iz (gC (dP D) s' b')) ∧ CRel x.2 (dPut (dRem D) (pwr (dP D) s' b' v)) ∧ Off CI M x.2) := by
            unfold f_X5_write_b32
            by_cases c : v = 99
            · rw [if_pos (by rw [e99]; exact c), allowsHold_eq hM.2.1 hP.1 s1 s2 (by omega) b2, ob_some, if_neg]
              · exact b58
              · rcases cw with z | z
                · exact absurd c z
                · rw [bz_t]
                  · decide
                  · rw [show (b' : Int) - 1 = ((b' - 1 : Nat) : Int) by omega, wr_in hs (by omega)]
                    exact z.2
            · rw [if_neg (by rw [e99]; exact c)]
              exact b58
          unfold f_X5_write
          rw [reqCell hM hD s1 s2 b1 b2, if_pos cc, oe_ok]
          by_cases c : v = -1
          · rw [if_pos (by rw [em1]; exact c)]; exact b32
          · rw [if_neg (by rw [em1]; exact c)]
            by_cases d : v = 99
            · rw [if_pos (by rw [e99]; exact d)]; exact b32
            · rw [if_neg (by rw [e99]; exact d), isPitch_eq v1 v2, ob_some, if_neg (by rw [bz_t (by omega)]; decide)]
              exact b32
      · rw [if_neg cw]
        -- a hold that follows a rest
        have c99 : v = 99 := by
          by_cases c : v = 99
          · exact c
          · exact absurd (Or.inl c) cw
        refine Cl.no hD 1 (fun M hM => ?_)
        · unfold f_X5_write f_X5_write_b32
          rw [reqCell hM hD s1 s2 b1 b2, if_pos cc, oe_ok, if_neg (by rw [em1]; omega), if_pos (by rw [e99]; exact c99), if_pos (by rw [e99]; exact c99), allowsHold_eq hM.2.1 hP.1 s1 s2 (by omega) b2, ob_some, if_pos]
          refine bz_f (fun z => ?_)
          refine cw (Or.inr ?_)
          by_cases b0 : b' = 0
          · exfalso
            apply z
            unfold wr
            rw [if_neg (by omega)]
          · rw [show (b' : Int) - 1 = ((b' - 1 : Nat) : Int) by omega, wr_in hs (by omega)] at z
            exact ⟨by omega, z⟩
    · rw [if_neg cv]
      refine Cl.no hD 0 (fun M hM => ?_)
      · unfold f_X5_write
        rw [reqCell hM hD s1 s2 b1 b2, if_pos cc, oe_ok, if_neg (by rw [em1]; omega), if_neg (by rw [e99]; omega), isPitch_eq v1 v2, ob_some, if_pos (show bz (0 ≤ v ∧ v ≤ 60) = 0 from bz_f (by omega))]
  · rw [if_neg cc]
    refine Cl.no hD 2 (fun M hM => ?_)
    · unfold f_X5_write
      rw [reqCell hM hD s1 s2 b1 b2, if_neg cc, oe_er]
theorem k_transpose (D : Ds) (hD : DOk D) {x0 : Int32} {s : Int} (hx0 : x0 = iz s) (s1 : -2147483648 ≤ s) (s2 : s < 2147483648) {y0 : Int32} {d : Int} (hy0 : y0 = iz d) (d1 : -2147483648 ≤ d) (d2 : d < 2147483648) : Cl (f_X5_transpose x0 y0) D (if 0 ≤ s ∧ s < gS (dP D) then (if -60 ≤ d ∧ d ≤ 60 then (if canMv (dP D) s.toNat d then (.ok (iz (nPit (dP D) s.toNat (gB (dP D)))), dPut (dRem D) (pmov (dP D) s.toNat d)) else (.error 1, D)) else (.error 0, D)) else (.error 2, D)) := by
  subst hx0 hy0
  have hP := hD.2.2.1
  have el : (iz d < -60) = (d < -60) := by rw [show (-60 : Int32) = iz (-60) from rfl, iz_lt d1 d2 (by omega) (by omega)]
  have eu : (iz d ≤ 60) = (d ≤ 60) := by rw [show (60 : Int32) = iz 60 from rfl, iz_le d1 d2 (by omega) (by omega)]
  by_cases cs : 0 ≤ s ∧ s < gS (dP D)
  · rw [if_pos cs]
    obtain ⟨s', rfl⟩ : ∃ s' : Nat, s = (s' : Int) := ⟨s.toNat, by omega⟩
    try simp only [Int.toNat_natCast]
    have hs : s' < gS (dP D) := by omega
    by_cases cd : -60 ≤ d ∧ d ≤ 60
    · rw [if_pos cd]
      by_cases cm : canMv (dP D) s' d
      · rw [if_pos cm]
        refine Cl.yes (D' := dPut (dRem D) (pmov (dP D) s' d)) (dPut_Ok (dRem_Ok hD) (pmov_Ok hP cm)) (iz (nPit (dP D) s' (gB (dP D)))) (fun M hM => ?_)
        · unfold f_X5_transpose
          rw [reqStaff hM hD s1 s2, if_pos cs, oe_ok, if_neg (by rw [el]; omega), if_pos (by rw [eu]; omega), allowsMoving_eq hM.2.1 hP.1 hs cd.1 cd.2, ob_some, if_neg (by rw [bz_t cm]; decide)]
          refine c_act hM hD _ (fun _ M2 h2 => ?_)
          refine Tot.ob ((moveStaff_tot h2 hP.1 hs cd.1 cd.2 cm).mono ?_)
          intro ⟨a, M3⟩ ⟨e, h3, o⟩
          exact Tot.mk ⟨congrArg _ e, h3, o⟩
      · rw [if_neg cm]
        refine Cl.no hD 1 (fun M hM => ?_)
        · unfold f_X5_transpose
          rw [reqStaff hM hD s1 s2, if_pos cs, oe_ok, if_neg (by rw [el]; omega), if_pos (by rw [eu]; omega), allowsMoving_eq hM.2.1 hP.1 hs cd.1 cd.2, ob_some, if_pos (show bz (canMv (dP D) s' d) = 0 from bz_f cm)]
    · rw [if_neg cd]
      refine Cl.no hD 0 (fun M hM => ?_)
      · unfold f_X5_transpose
        rw [reqStaff hM hD s1 s2, if_pos cs, oe_ok]
        by_cases c : d < -60
        · rw [if_pos (by rw [el]; exact c)]
        · rw [if_neg (by rw [el]; exact c), if_neg (by rw [eu]; omega)]
  · rw [if_neg cs]
    refine Cl.no hD 2 (fun M hM => ?_)
    · unfold f_X5_transpose
      rw [reqStaff hM hD s1 s2, if_neg cs, oe_er]
theorem k_exchange (D : Ds) (hD : DOk D) {x0 : Int32} {s : Int} (hx0 : x0 = iz s) (s1 : -2147483648 ≤ s) (s2 : s < 2147483648) {y0 : Int32} {d : Int} (hy0 : y0 = iz d) (d1 : -2147483648 ≤ d) (d2 : d < 2147483648) : Cl (f_X5_exchange x0 y0) D (if 0 ≤ s ∧ s < gS (dP D) then (if 0 ≤ d ∧ d < gS (dP D) then (.ok (iz (nDif (dP D) s.toNat d.toNat (gB (dP D)))), dPut (dRem D) (pswp (dP D) s.toNat d.toNat)) else (.error 2, D)) else (.error 2, D)) := by
  subst hx0 hy0
  have hP := hD.2.2.1
  by_cases cs : 0 ≤ s ∧ s < gS (dP D)
  · rw [if_pos cs]
    by_cases cd : 0 ≤ d ∧ d < gS (dP D)
    · rw [if_pos cd]
      obtain ⟨s', rfl⟩ : ∃ s' : Nat, s = (s' : Int) := ⟨s.toNat, by omega⟩
      try simp only [Int.toNat_natCast]
      obtain ⟨d', rfl⟩ : ∃ d' : Nat, d = (d' : Int) := ⟨d.toNat, by omega⟩
      try simp only [Int.toNat_natCast]
      have hs : s' < gS (dP D) := by omega
      have hd : d' < gS (dP D) := by omega
      refine Cl.yes (D' := dPut (dRem D) (pswp (dP D) s' d')) (dPut_Ok (dRem_Ok hD) (pswp_Ok hP hs hd)) (iz (nDif (dP D) s' d' (gB (dP D)))) (fun M hM => ?_)
      · unfold f_X5_exchange
        rw [reqStaff hM hD s1 s2, if_pos cs, oe_ok, reqStaff hM hD d1 d2, if_pos cd, oe_ok]
        refine c_act hM hD _ (fun _ M2 h2 => ?_)
        refine Tot.ob ((swapStaves_tot h2 hP.1 hs hd).mono ?_)
        intro ⟨a, M3⟩ ⟨e, h3, o⟩
        exact Tot.mk ⟨congrArg _ e, h3, o⟩
    · rw [if_neg cd]
      refine Cl.no hD 2 (fun M hM => ?_)
      · unfold f_X5_exchange
        rw [reqStaff hM hD s1 s2, if_pos cs, oe_ok, reqStaff hM hD d1 d2, if_neg cd, oe_er]
  · rw [if_neg cs]
    refine Cl.no hD 2 (fun M hM => ?_)
    · unfold f_X5_exchange
      rw [reqStaff hM hD s1 s2, if_neg cs, oe_er]
theorem k_whole (D : Ds) (hD : DOk D) {x0 : Int32} {v : Int} (hx0 : x0 = iz v) (v1 : -2147483648 ≤ v) (v2 : v < 2147483648) : Cl (f_X5_whole x0) D (if 0 ≤ v ∧ v ≤ 7 then (.ok (iz (nWhole (dP D) v.toNat)), D) else (.error 0, D)) := by
  subst hx0
  have up : ∀ M, f_X5_requireUpTo 7 (iz v) M = if 0 ≤ v ∧ v ≤ (7 : Nat) then some (.ok (), M) else some (.error 0, M) := fun M => reqUpTo (n := 7) (by omega) v1 v2
  by_cases c : 0 ≤ v ∧ v ≤ 7
  · rw [if_pos c]
    obtain ⟨w, rfl⟩ : ∃ w : Nat, v = (w : Int) := ⟨v.toNat, by omega⟩
    try simp only [Int.toNat_natCast]
    have hw : w < 8 := by omega
    refine Cl.yes (D' := D) hD (iz (nWhole (dP D) w)) (fun M hM => ?_)
    · unfold f_X5_whole
      rw [up, if_pos (by omega), oe_ok]
      refine Tot.ob ((c_make hM hD).mono ?_)
      intro ⟨_, M2⟩ ⟨a, b, o⟩
      have a : RD M2 (dP D) := a
      show Tot (ob (f_X2_numberOfWhole (iz (w : Int)) M2) _) _
      rw [numberOfWhole_eq a hD.2.2.1.1 hw, ob_some]
      exact Tot.mk ⟨rfl, b, o⟩
  · rw [if_neg c]
    refine Cl.no hD 0 (fun M hM => ?_)
    · unfold f_X5_whole
      rw [up, if_neg (by omega), oe_er]
theorem k_note (D : Ds) (hD : DOk D) {x0 : Int32} {s : Int} (hx0 : x0 = iz s) (s1 : -2147483648 ≤ s) (s2 : s < 2147483648) {y0 : Int32} {b : Int} (hy0 : y0 = iz b) (b1 : -2147483648 ≤ b) (b2 : b < 2147483648) {u0 : Int32} {v : Int} (hu0 : u0 = iz v) (v1 : -2147483648 ≤ v) (v2 : v < 2147483648) : Cl (f_X5_note x0 y0 u0) D (if (0 ≤ s ∧ s < gS (dP D)) ∧ 0 ≤ b ∧ b < gB (dP D) then (if 0 ≤ v ∧ v ≤ 3 then (.ok (iz (nNote (dP D) s.toNat b.toNat v.toNat)), D) else (.error 0, D)) else (.error 2, D)) := by
  subst hx0 hy0 hu0
  have hP := hD.2.2.1
  have up : ∀ M, f_X5_requireUpTo 3 (iz v) M = if 0 ≤ v ∧ v ≤ (3 : Nat) then some (.ok (), M) else some (.error 0, M) := fun M => reqUpTo (n := 3) (by omega) v1 v2
  by_cases cc : (0 ≤ s ∧ s < gS (dP D)) ∧ 0 ≤ b ∧ b < gB (dP D)
  · rw [if_pos cc]
    by_cases c : 0 ≤ v ∧ v ≤ 3
    · rw [if_pos c]
      obtain ⟨w, rfl⟩ : ∃ w : Nat, v = (w : Int) := ⟨v.toNat, by omega⟩
      try simp only [Int.toNat_natCast]
      obtain ⟨s', rfl⟩ : ∃ s' : Nat, s = (s' : Int) := ⟨s.toNat, by omega⟩
      try simp only [Int.toNat_natCast]
      obtain ⟨b', rfl⟩ : ∃ b' : Nat, b = (b' : Int) := ⟨b.toNat, by omega⟩
      try simp only [Int.toNat_natCast]
      have hs : s' < gS (dP D) := by omega
      have hb : b' < gB (dP D) := by omega
      have hw : w < 4 := by omega
      refine Cl.yes (D' := D) hD (iz (nNote (dP D) s' b' w)) (fun M hM => ?_)
      · unfold f_X5_note
        rw [reqCell hM hD s1 s2 b1 b2, if_pos cc, oe_ok, up, if_pos (by omega), oe_ok]
        refine Tot.ob ((c_make hM hD).mono ?_)
        intro ⟨_, M2⟩ ⟨a, b, o⟩
        have a : RD M2 (dP D) := a
        show Tot (ob (f_X2_numberOfNote (iz (s' : Int)) (iz (b' : Int)) (iz (w : Int)) M2) _) _
        rw [numberOfNote_eq a hP.1 hb hs hw, ob_some]
        exact Tot.mk ⟨rfl, b, o⟩
    · rw [if_neg c]
      refine Cl.no hD 0 (fun M hM => ?_)
      · unfold f_X5_note
        rw [reqCell hM hD s1 s2 b1 b2, if_pos cc, oe_ok, up, if_neg (by omega), oe_er]
  · rw [if_neg cc]
    refine Cl.no hD 2 (fun M hM => ?_)
    · unfold f_X5_note
      rw [reqCell hM hD s1 s2 b1 b2, if_neg cc, oe_er]
theorem k_hand (D : Ds) (hD : DOk D) {x0 : Int32} {s : Int} (hx0 : x0 = iz s) (s1 : -2147483648 ≤ s) (s2 : s < 2147483648) {y0 : Int32} {b : Int} (hy0 : y0 = iz b) (b1 : -2147483648 ≤ b) (b2 : b < 2147483648) {u0 : Int32} {v : Int} (hu0 : u0 = iz v) (v1 : -2147483648 ≤ v) (v2 : v < 2147483648) : Cl (f_X5_hand x0 y0 u0) D (if 0 ≤ s ∧ s ≤ 1 then (if 0 ≤ b ∧ b < gB (dP D) then (if 0 ≤ v ∧ v ≤ 4 then (.ok (iz (nHand (dP D) s.toNat b.toNat v.toNat)), D) else (.error 0, D)) else (.error 2, D)) else (.error 2, D)) := by
  subst hx0 hy0 hu0
  have hP := hD.2.2.1
  have up : ∀ M, f_X5_requireUpTo 4 (iz v) M = if 0 ≤ v ∧ v ≤ (4 : Nat) then some (.ok (), M) else some (.error 0, M) := fun M => reqUpTo (n := 4) (by omega) v1 v2
  have e0 : (iz s < 0) = (s < 0) := by rw [show (0 : Int32) = iz 0 from rfl, iz_lt s1 s2 (by omega) (by omega)]
  have e2 : (iz s < 2) = (s < 2) := by rw [show (2 : Int32) = iz 2 from rfl, iz_lt s1 s2 (by omega) (by omega)]
  by_cases ch : 0 ≤ s ∧ s ≤ 1
  · rw [if_pos ch]
    by_cases cb : 0 ≤ b ∧ b < gB (dP D)
    · rw [if_pos cb]
      by_cases c : 0 ≤ v ∧ v ≤ 4
      · rw [if_pos c]
        obtain ⟨w, rfl⟩ : ∃ w : Nat, v = (w : Int) := ⟨v.toNat, by omega⟩
        try simp only [Int.toNat_natCast]
        obtain ⟨s', rfl⟩ : ∃ s' : Nat, s = (s' : Int) := ⟨s.toNat, by omega⟩
        try simp only [Int.toNat_natCast]
        obtain ⟨b', rfl⟩ : ∃ b' : Nat, b = (b' : Int) := ⟨b.toNat, by omega⟩
        try simp only [Int.toNat_natCast]
        have hs : s' < 2 := by omega
        have hb : b' < gB (dP D) := by omega
        have hw : w < 5 := by omega
        refine Cl.yes (D' := D) hD (iz (nHand (dP D) s' b' w)) (fun M hM => ?_)
        · unfold f_X5_hand
          rw [if_neg (by rw [e0]; omega), if_pos (by rw [e2]; omega), reqBeat hM hD b1 b2, if_pos cb, oe_ok, up, if_pos (by omega), oe_ok]
          refine Tot.ob ((c_make hM hD).mono ?_)
          intro ⟨_, M2⟩ ⟨a, b, o⟩
          have a : RD M2 (dP D) := a
          show Tot (ob (f_X2_numberOfHand (iz (s' : Int)) (iz (b' : Int)) (iz (w : Int)) M2) _) _
          rw [numberOfHand_eq a hP.1 hb hs hw, ob_some]
          exact Tot.mk ⟨rfl, b, o⟩
      · rw [if_neg c]
        refine Cl.no hD 0 (fun M hM => ?_)
        · unfold f_X5_hand
          rw [if_neg (by rw [e0]; omega), if_pos (by rw [e2]; omega), reqBeat hM hD b1 b2, if_pos cb, oe_ok, up, if_neg (by omega), oe_er]
    · rw [if_neg cb]
      refine Cl.no hD 2 (fun M hM => ?_)
      · unfold f_X5_hand
        rw [if_neg (by rw [e0]; omega), if_pos (by rw [e2]; omega), reqBeat hM hD b1 b2, if_neg cb, oe_er]
  · rw [if_neg ch]
    refine Cl.no hD 2 (fun M hM => ?_)
    · unfold f_X5_hand
      by_cases c : s < 0
      · rw [if_pos (by rw [e0]; exact c)]
      · rw [if_neg (by rw [e0]; exact c), if_neg (by rw [e2]; omega)]
theorem k_beat (D : Ds) (hD : DOk D) {x0 : Int32} {b : Int} (hx0 : x0 = iz b) (b1 : -2147483648 ≤ b) (b2 : b < 2147483648) {y0 : Int32} {v : Int} (hy0 : y0 = iz v) (v1 : -2147483648 ≤ v) (v2 : v < 2147483648) : Cl (f_X5_beat x0 y0) D (if 0 ≤ b ∧ b < gB (dP D) then (if 0 ≤ v ∧ v ≤ 4 then (.ok (nBeat (dP D) b.toNat v.toNat), D) else (.error 0, D)) else (.error 2, D)) := by
  subst hx0 hy0
  have hP := hD.2.2.1
  have up : ∀ M, f_X5_requireUpTo 4 (iz v) M = if 0 ≤ v ∧ v ≤ (4 : Nat) then some (.ok (), M) else some (.error 0, M) := fun M => reqUpTo (n := 4) (by omega) v1 v2
  by_cases cb : 0 ≤ b ∧ b < gB (dP D)
  · rw [if_pos cb]
    by_cases c : 0 ≤ v ∧ v ≤ 4
    · rw [if_pos c]
      obtain ⟨w, rfl⟩ : ∃ w : Nat, v = (w : Int) := ⟨v.toNat, by omega⟩
      try simp only [Int.toNat_natCast]
      obtain ⟨b', rfl⟩ : ∃ b' : Nat, b = (b' : Int) := ⟨b.toNat, by omega⟩
      try simp only [Int.toNat_natCast]
      have hb : b' < gB (dP D) := by omega
      have hw : w < 5 := by omega
      refine Cl.yes (D' := D) hD (nBeat (dP D) b' w) (fun M hM => ?_)
      · unfold f_X5_beat
        rw [reqBeat hM hD b1 b2, if_pos cb, oe_ok, up, if_pos (by omega), oe_ok]
        refine Tot.ob ((c_make hM hD).mono ?_)
        intro ⟨_, M2⟩ ⟨a, b, o⟩
        have a : RD M2 (dP D) := a
        show Tot (ob (f_X2_numberOfBeat (iz (b' : Int)) (iz (w : Int)) M2) _) _
        rw [numberOfBeat_eq a hP.1 hb hw, ob_some]
        exact Tot.mk ⟨rfl, b, o⟩
    · rw [if_neg c]
      refine Cl.no hD 0 (fun M hM => ?_)
      · unfold f_X5_beat
        rw [reqBeat hM hD b1 b2, if_pos cb, oe_ok, up, if_neg (by omega), oe_er]
  · rw [if_neg cb]
    refine Cl.no hD 2 (fun M hM => ?_)
    · unfold f_X5_beat
      rw [reqBeat hM hD b1 b2, if_neg cb, oe_er]
