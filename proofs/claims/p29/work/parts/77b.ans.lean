theorem k_undo (D : Ds) (hD : DOk D)  : Cl (f_X5_undo ) D (if 0 < dH D then (.ok (iz (dH D - 1 : Nat)), dBack D) else (.error 1, D)) := by
  by_cases h0 : 0 < dH D
  · rw [if_pos h0]
    refine Cl.yes (D' := dBack D) (dBack_Ok hD h0) (iz (dH D - 1 : Nat)) (fun M hM => ?_)
    · obtain ⟨nx, c1, c2, c3, c4⟩ := hM.2.2.1
      have n0 : ¬ (iz (dH D : Int) = 0) := by
        have := hD.2.2.2.1
        rw [show (0 : Int32) = iz 0 from rfl, iz_eq (by omega) (by omega) (by omega) (by omega)]; omega
      unfold f_X5_undo f_X1_isEmpty
      rw [c3, if_neg n0, ob_some, if_pos rfl]
      refine Tot.ob ((c_back hM hD h0).mono ?_)
      intro ⟨x, M2⟩ ⟨a, b, o⟩
      exact Tot.mk ⟨congrArg _ a, b, o⟩
  · rw [if_neg h0]
    have e0 : dH D = 0 := by omega
    refine Cl.no hD 1 (fun M hM => ?_)
    · obtain ⟨nx, c1, c2, c3, c4⟩ := hM.2.2.1
      unfold f_X5_undo f_X1_isEmpty
      rw [c3, e0, if_pos (show iz ((0 : Nat) : Int) = (0 : Int32) from rfl), ob_some, if_neg (by decide)]
theorem k_cell (D : Ds) (hD : DOk D) {x0 : Int32} {s : Int} (hx0 : x0 = iz s) (s1 : -2147483648 ≤ s) (s2 : s < 2147483648) {y0 : Int32} {b : Int} (hy0 : y0 = iz b) (b1 : -2147483648 ≤ b) (b2 : b < 2147483648) (z : Int32) : Cl (f_X5_cell x0 y0 z) D (if (0 ≤ s ∧ s < gS (dP D)) ∧ 0 ≤ b ∧ b < gB (dP D) then (.ok (if z = 0 then iz (gC (dP D) s.toNat b.toNat) else iz (sp (dP D) b.toNat s.toNat)), D) else (.error 2, D)) := by
  subst hx0 hy0
  have hP := hD.2.2.1
  by_cases cc : (0 ≤ s ∧ s < gS (dP D)) ∧ 0 ≤ b ∧ b < gB (dP D)
  · rw [if_pos cc]
    obtain ⟨s', rfl⟩ : ∃ s' : Nat, s = (s' : Int) := ⟨s.toNat, by omega⟩
    try simp only [Int.toNat_natCast]
    obtain ⟨b', rfl⟩ : ∃ b' : Nat, b = (b' : Int) := ⟨b.toNat, by omega⟩
    try simp only [Int.toNat_natCast]
    have hs : s' < gS (dP D) := by omega
    have hb : b' < gB (dP D) := by omega
    have h4 := hP.1.1.1
    refine Cl.yes (D' := D) hD (if z = 0 then iz (gC (dP D) s' b') else iz (sp (dP D) b' s')) (fun M hM => ?_)
    · unfold f_X5_cell
      rw [reqCell hM hD s1 s2 b1 b2, if_pos cc, oe_ok]
      by_cases c : z = 0
      · rw [if_pos c, if_pos c, written_nat hM.2.1 hP.1.1 hs hb, ob_some]
        exact Tot.mk ⟨rfl, hM, Off.rf⟩
      · rw [if_neg c, if_neg c, sounding_sp hM.2.1 hP.1 (by omega) hb, ob_some]
        exact Tot.mk ⟨rfl, hM, Off.rf⟩
  · rw [if_neg cc]
    refine Cl.no hD 2 (fun M hM => ?_)
    · unfold f_X5_cell
      rw [reqCell hM hD s1 s2 b1 b2, if_neg cc, oe_er]
theorem k_staff (D : Ds) (hD : DOk D) (z : Int32) : Cl (f_X5_staff z) D (if z = 0 then (if 1 < gS (dP D) then (.ok (iz ((gS (dP D) - 1 : Nat) : Int)), dPut (dRem D) (pdrp (dP D))) else (.error 1, D)) else (if gS (dP D) < 4 then (.ok (iz ((gS (dP D) + 1 : Nat) : Int)), dPut (dRem D) (padd (dP D))) else (.error 1, D))) := by
  have hP := hD.2.2.1
  have h1 := hP.1.1.1
  have e4 : (iz (gS (dP D) : Int) = 4) = (gS (dP D) = 4) := by
    rw [show (4 : Int32) = iz 4 from rfl, iz_eq (by omega) (by omega) (by omega) (by omega)]
    exact propext ⟨fun h => by omega, fun h => by omega⟩
  have e1 : (iz (gS (dP D) : Int) = 1) = (gS (dP D) = 1) := by
    rw [show (1 : Int32) = iz 1 from rfl, iz_eq (by omega) (by omega) (by omega) (by omega)]
    exact propext ⟨fun h => by omega, fun h => by omega⟩
  have l4 : (iz (gS (dP D) : Int) < 4) = (gS (dP D) < 4) := by rw [show (4 : Int32) = iz ((4 : Nat) : Int) from rfl, ltz (by omega) (by omega)]
  have l1 : ((1 : Int32) < iz (gS (dP D) : Int)) = (1 < gS (dP D)) := by rw [show (1 : Int32) = iz ((1 : Nat) : Int) from rfl, ltz (by omega) (by omega)]
  by_cases c : z = 0
  · rw [if_pos c]
    by_cases k : 1 < gS (dP D)
    · rw [if_pos k]
      refine Cl.yes (D' := dPut (dRem D) (pdrp (dP D))) (dPut_Ok (dRem_Ok hD) (pdrp_Ok hP k)) (iz ((gS (dP D) - 1 : Nat) : Int)) (fun M hM => ?_)
      · unfold f_X5_staff f_X5_staff_b37
        rw [if_pos c, hM.2.1.1, if_pos (by rw [l1]; exact k)]
        refine c_act hM hD _ (fun _ M2 h2 => ?_)
        rw [if_pos c]
        refine Tot.ob ((dropStaff_tot h2 hP.1.1 k).mono ?_)
        intro ⟨_, M3⟩ ⟨a, o⟩
        exact Tot.mk ⟨congrArg _ a.1, a, o⟩
    · rw [if_neg k]
      refine Cl.no hD 1 (fun M hM => ?_)
      · unfold f_X5_staff
        rw [if_pos c, hM.2.1.1, if_neg (by rw [l1]; exact k)]
  · rw [if_neg c]
    by_cases k : gS (dP D) < 4
    · rw [if_pos k]
      refine Cl.yes (D' := dPut (dRem D) (padd (dP D))) (dPut_Ok (dRem_Ok hD) (padd_Ok hP k)) (iz ((gS (dP D) + 1 : Nat) : Int)) (fun M hM => ?_)
      · unfold f_X5_staff f_X5_staff_b37
        rw [if_neg c, hM.2.1.1, if_pos (by rw [l4]; exact k)]
        refine c_act hM hD _ (fun _ M2 h2 => ?_)
        rw [if_neg c]
        refine Tot.ob ((addStaff_tot h2 hP.1.1 k).mono ?_)
        intro ⟨_, M3⟩ ⟨a, o⟩
        exact Tot.mk ⟨congrArg _ a.1, a, o⟩
    · rw [if_neg k]
      refine Cl.no hD 1 (fun M hM => ?_)
      · unfold f_X5_staff
        rw [if_neg c, hM.2.1.1, if_neg (by rw [l4]; exact k)]
theorem k_about (D : Ds) (hD : DOk D) {x0 : Int32} {v : Int} (hx0 : x0 = iz v) (v1 : -2147483648 ≤ v) (v2 : v < 2147483648) : Cl (f_X5_about x0) D (if 0 ≤ v ∧ v ≤ 9 then (.ok (iz (nAbout (dP D) v.toNat)), D) else (.error 0, D)) := by
  subst hx0
  have hP := hD.2.2.1
  have ev : ∀ n : Nat, n < 100 → (iz v = iz (n : Int)) = (v = n) := fun n hn => iz_eq v1 v2 (by omega) (by omega)
  have q6 : (iz v = 6) = (v = 6) := ev 6 (by omega)
  have q7 : (iz v = 7) = (v = 7) := ev 7 (by omega)
  have q8 : (iz v = 8) = (v = 8) := ev 8 (by omega)
  have q9 : (iz v = 9) = (v = 9) := ev 9 (by omega)
  have l0 : (iz v < 0) = (v < 0) := by rw [show (0 : Int32) = iz 0 from rfl, iz_lt v1 v2 (by omega) (by omega)]
  have l6 : ((6 : Int32) ≤ iz v) = (6 ≤ v) := by rw [show (6 : Int32) = iz 6 from rfl, iz_le (by omega) (by omega) v1 v2]
  have l8 : ((8 : Int32) ≤ iz v) = (8 ≤ v) := by rw [show (8 : Int32) = iz 8 from rfl, iz_le (by omega) (by omega) v1 v2]
  by_cases c : 0 ≤ v ∧ v ≤ 9
  · rw [if_pos c]
    obtain ⟨w, rfl⟩ : ∃ w : Nat, v = (w : Int) := ⟨v.toNat, by omega⟩
    try simp only [Int.toNat_natCast]
    refine Cl.yes (D' := D) hD (iz (nAbout (dP D) w)) (fun M hM => ?_)
    · have fin : ∀ r : Int32, r = iz (nAbout (dP D) w) → Tot (some ((.ok r : Except Nat Int32), M)) (fun x => x.1 = .ok (iz (nAbout (dP D) w)) ∧ CRel x.2 D ∧ Off CI M x.2) := fun r hr => Tot.mk ⟨by rw [hr], hM, Off.rf⟩
      unfold f_X5_about
      rw [if_neg (by rw [l0]; omega)]
      by_cases c6 : w < 6
      · rw [if_neg (by rw [l6]; omega), settingAt_eq hM.2.1 c6, ob_some]
        exact fin _ (by unfold nAbout; rw [if_pos c6])
      · rw [if_pos (by rw [l6]; omega)]
        unfold f_X5_about_b19
        by_cases w6 : w = 6
        · rw [if_pos (by rw [q6]; omega), hM.2.1.1]
          exact fin _ (by unfold nAbout; rw [if_neg c6, if_pos w6])
        · rw [if_neg (by rw [q6]; omega)]
          by_cases w7 : w = 7
          · rw [if_pos (by rw [q7]; omega), hM.2.1.2.1]
            exact fin _ (by unfold nAbout; rw [if_neg c6, if_neg w6, if_pos w7])
          · rw [if_neg (by rw [q7]; omega)]
            by_cases w8 : w = 8
            · rw [if_pos (by rw [q8]; omega), countStruck_eq hM.2.1 hP.1, ob_some]
              exact fin _ (by unfold nAbout; rw [if_neg c6, if_neg w6, if_neg w7, if_pos w8])
            · rw [if_neg (by rw [q8]; omega), if_pos (by rw [q9]; omega), countHolds_eq hM.2.1 hP.1, ob_some]
              exact fin _ (by unfold nAbout; rw [if_neg c6, if_neg w6, if_neg w7, if_neg w8])
  · rw [if_neg c]
    refine Cl.no hD 0 (fun M hM => ?_)
    · unfold f_X5_about f_X5_about_b19
      rw [if_neg (show ¬ iz v = 6 by rw [q6]; omega), if_neg (show ¬ iz v = 7 by rw [q7]; omega), if_neg (show ¬ iz v = 8 by rw [q8]; omega), if_neg (show ¬ iz v = 9 by rw [q9]; omega)]
      by_cases d : v < 0
      · rw [if_pos (by rw [l0]; exact d)]
      · rw [if_neg (by rw [l0]; exact d), if_pos (by rw [l6]; omega)]
theorem k_append (D : Ds) (hD : DOk D) {x0 : Int32} {v : Int} (hx0 : x0 = iz v) (v1 : -2147483648 ≤ v) (v2 : v < 2147483648) : Cl (f_X5_append x0) D (if 0 ≤ v ∧ v ≤ 255 then (if dN D < 140 then (.ok (iz ((dN D + 1 : Nat) : Int)), ((dN D + 1, fun i => if i = dN D then v else dT D i), D.2)) else (.error 1, D)) else (.error 0, D)) := by
  subst hx0
  have hN := hD.1
  have l0 : (iz v < 0) = (v < 0) := by rw [show (0 : Int32) = iz 0 from rfl, iz_lt v1 v2 (by omega) (by omega)]
  have l255 : (iz v ≤ 255) = (v ≤ 255) := by rw [show (255 : Int32) = iz 255 from rfl, iz_le v1 v2 (by omega) (by omega)]
  have lN : (iz (dN D : Int) < 140) = (dN D < 140) := by rw [show (140 : Int32) = iz ((140 : Nat) : Int) from rfl, ltz (by omega) (by omega)]
  have isF : ∀ M, M 1 1 = iz (dN D) → f_X4_isFull M = some (if dN D < 140 then 0 else 1, M) := fun M e => by
    unfold f_X4_isFull
    rw [e]
    by_cases c : dN D < 140
    · rw [if_pos (by rw [lN]; exact c), if_pos c]
    · rw [if_neg (by rw [lN]; exact c), if_neg c]
  by_cases c : 0 ≤ v ∧ v ≤ 255
  · rw [if_pos c]
    obtain ⟨w, rfl⟩ : ∃ w : Nat, v = (w : Int) := ⟨v.toNat, by omega⟩
    by_cases k : dN D < 140
    · rw [if_pos k]
      refine Cl.yes (D' := ((dN D + 1, fun i => if i = dN D then (w : Int) else dT D i), D.2)) ⟨by show dN D + 1 ≤ 140; omega, fun i hi => ?_, hD.2.2⟩ (iz ((dN D + 1 : Nat) : Int)) (fun M hM => ?_)
      · show 0 ≤ (if i = dN D then (w : Int) else dT D i) ∧ (if i = dN D then (w : Int) else dT D i) ≤ 255
        have hi : i < dN D + 1 := hi
        by_cases e : i = dN D
        · rw [if_pos e]; exact c
        · rw [if_neg e]; exact hD.2.1 i (by omega)
      · unfold f_X5_append
        rw [if_neg (by rw [l0]; omega), if_pos (by rw [l255]; omega), isF M hM.1.1, if_pos k, ob_some, if_pos rfl]
        unfold f_X4_add
        rw [isF M hM.1.1, if_pos k, ob_some, if_pos rfl, hM.1.1, if_pos (inb_n k (by omega)), cl_n (by omega), nar_char w (by omega)]
        have e1 : mw M 2 (dN D) (iz (w : Int)) 1 1 = iz (dN D) := by rw [mw_ne (by omega)]; exact hM.1.1
        have w1 : ∀ y, mw (mw M 2 (dN D) (iz (w : Int))) 1 1 y 1 1 = y := fun y => by rw [mw_at, if_pos rfl]
        rw [e1, a1z, w1, ob_some]
        have o : Off CI M (mw (mw M 2 (dN D) (iz (w : Int))) 1 1 (iz ((dN D + 1 : Nat) : Int))) := (Off.rf.put (by unfold CI; omega)).put (by unfold CI; omega)
        refine Tot.mk ⟨rfl, hM.text (w1 _) (fun i hi => ?_) (fun d x y => (mw_ne x).trans (mw_ne y)), o⟩
        dsimp only
        rw [mw_ne (by omega), mw_at]
        by_cases e : i = dN D
        · rw [if_pos e, if_pos e]
        · rw [if_neg e, if_neg e]; exact hM.1.2 i (by omega)
    · rw [if_neg k]
      refine Cl.no hD 1 (fun M hM => ?_)
      unfold f_X5_append
      rw [if_neg (by rw [l0]; omega), if_pos (by rw [l255]; omega), isF M hM.1.1, if_neg k, ob_some, if_neg (by decide)]
  · rw [if_neg c]
    refine Cl.no hD 0 (fun M hM => ?_)
    unfold f_X5_append
    by_cases d : v < 0
    · rw [if_pos (by rw [l0]; exact d)]
    · rw [if_neg (by rw [l0]; exact d), if_neg (by rw [l255]; omega)]
theorem k_clear (D : Ds) (hD : DOk D) : ClD f_X5_clearText D (iz (dN D), ((0, dT D), D.2)) := by
  refine ⟨⟨by show 0 ≤ 140; omega, fun i hi => absurd hi (Nat.not_lt_zero i), hD.2.2⟩, fun M hM => ?_⟩
  · unfold f_X5_clearText f_X4_empty
    rw [ob_some, hM.1.1]
    have o : Off CI M (mw M 1 1 0) := Off.rf.put (by unfold CI; omega)
    refine Tot.mk ⟨rfl, hM.text ?_ (fun i hi => absurd hi (Nat.not_lt_zero i)) (fun d x y => mw_ne x), o⟩
    dsimp only
    rw [mw_at, if_pos rfl]; rfl
theorem k_save (D : Ds) (hD : DOk D) {x0 : Int32} {v : Int} (hx0 : x0 = iz v) (v1 : -2147483648 ≤ v) (v2 : v < 2147483648) : Cl (f_X5_save x0) D (if 0 ≤ v ∧ v ≤ 1 then (.ok (iz (gB (dP D))), dSav D v.toNat) else (.error 2, D)) := by
  subst hx0
  have hP := hD.2.2.1
  by_cases c : 0 ≤ v ∧ v ≤ 1
  · rw [if_pos c]
    obtain ⟨w, rfl⟩ : ∃ w : Nat, v = (w : Int) := ⟨v.toNat, by omega⟩
    try simp only [Int.toNat_natCast]
    have hw : w < 2 := by omega
    refine Cl.yes (D' := dSav D w) (dSav_Ok hD w) (iz (gB (dP D))) (fun M hM => ?_)
    · unfold f_X5_save
      rw [reqSlot v1 v2, if_pos (by omega), oe_ok, if_pos (inb_n hw (by omega)), cl_n (n := w) (by omega)]
      refine Tot.ob ((take_rep (q := 2 + w) (r := 0) (by omega) hM.2.1 hP.1.1).mono ?_)
      intro ⟨_, M2⟩ ⟨hs, o⟩
      have hs : StRep M2 (2 + w) (dP D) := hs
      have o : Off (RSt (2 + w)) M M2 := o
      have iw := iSt_eq (2 + w)
      have i0 := iSt_eq 0
      have ne : ∀ d, (d < 50 ∨ 56 ≤ d ∨ ¬ (iSt (2 + w) ≤ d ∧ d < iSt (2 + w) + 3)) → d ≠ 6 → mw M2 6 w (vp_nar .boolean 1) d = M d := fun d hd h6 => (mw_ne h6).trans (o d (by unfold RSt; omega))
      have b2 : StRep (mw M2 6 w (vp_nar .boolean 1)) 0 (dP D) := hM.2.1.same (fun d x y => ne d (by omega) (by omega))
      rw [if_pos (inb_n hw (by omega)), b2.2.1]
      refine Tot.mk ⟨rfl, ?_, fun d hd => ne d (by unfold CI at hd; omega) (by unfold CI at hd; omega)⟩
      obtain ⟨⟨a1, a2⟩, b, ⟨nx, c1, c2, c3, c4⟩, dd, e⟩ := hM
      refine ⟨⟨by show mw M2 6 w (vp_nar .boolean 1) 1 1 = _; rw [ne 1 (by omega) (by omega)]; exact a1, fun i hi => by show mw M2 6 w (vp_nar .boolean 1) 2 i = _; rw [ne 2 (by omega) (by omega)]; exact a2 i hi⟩, b2, ⟨nx, c1, by show mw M2 6 w (vp_nar .boolean 1) 3 1 = _; rw [ne 3 (by omega) (by omega)]; exact c2, by show mw M2 6 w (vp_nar .boolean 1) 3 2 = _; rw [ne 3 (by omega) (by omega)]; exact c3, fun j hj => (c4 j hj).same (fun d x y => ne d (by have := iSt_eq (4 + (nx + 14 - dH D + j) % 14); omega) (by have := iSt_eq (4 + (nx + 14 - dH D + j) % 14); omega))⟩, fun s hs' => ⟨?_, fun hf => ?_⟩, e.same (fun d x y => ne d (by omega) (by omega))⟩
      · show mw M2 6 w (vp_nar .boolean 1) 6 s = iz (b01 (if s = w then true else dF D s))
        rw [mw_at]
        by_cases ew : s = w
        · rw [if_pos ew, if_pos ew, nar_b1]; rfl
        · rw [if_neg ew, if_neg ew, o 6 (by unfold RSt; omega)]; exact (dd s hs').1
      · have hf : (if s = w then true else dF D s) = true := hf
        show StRep (mw M2 6 w (vp_nar .boolean 1)) (2 + s) (if s = w then dP D else dS D s)
        by_cases ew : s = w
        · rw [if_pos ew, ew]; exact hs.same (fun d x y => mw_ne (by omega))
        · rw [if_neg ew] at hf ⊢
          exact ((dd s hs').2 hf).same (fun d x y => ne d (by have := iSt_eq (2 + s); omega) (by have := iSt_eq (2 + s); omega))
  · rw [if_neg c]
    refine Cl.no hD 2 (fun M hM => ?_)
    · unfold f_X5_save
      rw [reqSlot v1 v2, if_neg (by omega), oe_er]
theorem k_restore (D : Ds) (hD : DOk D) {x0 : Int32} {v : Int} (hx0 : x0 = iz v) (v1 : -2147483648 ≤ v) (v2 : v < 2147483648) : Cl (f_X5_restore x0) D (if 0 ≤ v ∧ v ≤ 1 then (if dF D v.toNat = true then (.ok (iz (gB (dS D v.toNat))), dRes D (dS D v.toNat)) else (.error 1, D)) else (.error 2, D)) := by
  subst hx0
  by_cases c : 0 ≤ v ∧ v ≤ 1
  · rw [if_pos c]
    obtain ⟨w, rfl⟩ : ∃ w : Nat, v = (w : Int) := ⟨v.toNat, by omega⟩
    try simp only [Int.toNat_natCast]
    have hw : w < 2 := by omega
    by_cases hf : dF D w = true
    · rw [if_pos hf]
      have hP := hD.2.2.2.2.2 w hw hf
      have b1 : iz (b01 (dF D w)) = 1 := by rw [hf]; rfl
      refine Cl.yes (D' := dRes D (dS D w)) (dRes_Ok hD hP) (iz (gB (dS D w))) (fun M hM => ?_)
      · have hS := (hM.2.2.2.1 w hw).2 hf
        unfold f_X5_restore
        rw [reqSlot v1 v2, if_pos (by omega), oe_ok, if_pos (inb_n hw (by omega)), cl_n (n := w) (by omega), (hM.2.2.2.1 w hw).1, b1, if_neg (by decide), if_pos (inb_n hw (by omega))]
        refine Tot.ob ((take_rep (q := 0) (r := 2 + w) (by omega) hS hP.1.1).mono ?_)
        intro ⟨_, M2⟩ ⟨hs, o⟩
        have hs : StRep M2 0 (dS D w) := hs
        have o : Off (RSt 0) M M2 := o
        have i0 := iSt_eq 0
        unfold f_X1_forget
        have ne : ∀ d, (d < 44 ∨ 47 ≤ d) → d ≠ 3 → mw M2 3 2 0 d = M d := fun d hd h3 => (mw_ne h3).trans (o d (by unfold RSt; omega))
        have s2 : StRep (mw M2 3 2 0) 0 (dS D w) := hs.same (fun d x y => mw_ne (by omega))
        show Tot (some ((.ok (mw M2 3 2 0 (iSt 0) 3) : Except Nat Int32), mw M2 3 2 0)) _
        rw [s2.2.1]
        refine Tot.mk ⟨rfl, hM.rest s2 ?_ ?_ ne, fun d hd => ne d (by unfold CI at hd; omega) (by unfold CI at hd; omega)⟩
        · show mw M2 3 2 0 3 2 = _
          rw [mw_at, if_pos rfl]; rfl
        · show mw M2 3 2 0 3 1 = _
          rw [mw_at, if_neg (by omega), o 3 (by unfold RSt; omega)]
    · rw [if_neg hf]
      have b0 : iz (b01 (dF D w)) = 0 := by rw [show dF D w = false by simpa using hf]; rfl
      refine Cl.no hD 1 (fun M hM => ?_)
      · unfold f_X5_restore
        rw [reqSlot v1 v2, if_pos (by omega), oe_ok, if_pos (inb_n hw (by omega)), cl_n (n := w) (by omega), (hM.2.2.2.1 w hw).1, b0, if_pos rfl]
  · rw [if_neg c]
    refine Cl.no hD 2 (fun M hM => ?_)
    · unfold f_X5_restore
      rw [reqSlot v1 v2, if_neg (by omega), oe_er]
theorem k_error (D : Ds) (hD : DOk D) : ClD f_X5_errorPosition D (iz (rdE D.1), D) := by
  refine ⟨hD, fun M hM => ?_⟩
  · unfold f_X5_errorPosition
    refine Tot.ob ((readInto_tot (TOk_D hD) hM.1.1 hM.1.2).mono ?_)
    intro ⟨x, M2⟩ ⟨a, b, c, d⟩
    exact Tot.mk ⟨a, hM.rd b c, c.wk CI_RT⟩
theorem k_load (D : Ds) (hD : DOk D) : Cl f_X5_load D (if rdE D.1 = -9 then (.ok (iz (gB (rdP D.1))), dLoad D) else (.error 1, D)) := by
  have i0 := iSt_eq 0
  have i1 := iSt_eq 1
  by_cases k : rdE D.1 = -9
  · rw [if_pos k]
    have hP := rdP_Ok (rdE_hOk k)
    refine Cl.yes (D' := dLoad D) (dLoad_Ok hD k) (iz (gB (rdP D.1))) (fun M hM => ?_)
    · unfold f_X5_load
      refine Tot.ob ((readInto_tot (TOk_D hD) hM.1.1 hM.1.2).mono ?_)
      intro ⟨x, M2⟩ ⟨a, b, c, d⟩
      have a : x = iz (rdE D.1) := a
      have b : M2 1 1 = M 1 1 := b
      have c : Off RT M M2 := c
      have d : StRep M2 1 (fSE M, (dig D.1 1).toNat, (hB D.1).toNat, (fin D.1).2.2) := d k
      dsimp only
      rw [a, k, if_pos (show iz (-9) = -9 from rfl)]
      refine Tot.ob ((resetSettings_tot 1 M2).mono ?_)
      intro ⟨_, M4⟩ ⟨a4, o4⟩
      have a4 : ∀ j, j < 6 → M4 (iSt 1 + 1) j = sa_first.getD j 0 := a4
      have o4 : Off (fun d => d = iSt 1 + 1) M2 M4 := o4
      have st : StRep M4 1 (rdP D.1) := ⟨by rw [o4 (iSt 1) (by omega)]; exact d.1, by rw [o4 (iSt 1) (by omega)]; exact d.2.1, fun j hj => by rw [a4 j hj]; exact fE_sa j hj, fun s b hs hb => by rw [o4 (iSt 1 + 2) (by omega)]; exact d.2.2.2 s b hs hb⟩
      refine Tot.ob ((take_rep (q := 0) (r := 1) (by omega) st hP.1.1).mono ?_)
      intro ⟨_, M6⟩ ⟨s6, o6⟩
      have s6 : StRep M6 0 (rdP D.1) := s6
      have o6 : Off (RSt 0) M4 M6 := o6
      unfold f_X1_forget
      rw [ob_some, show (0 : Int32) = iz ((0 : Nat) : Int) from rfl]
      have n6 : ∀ d, d ≠ 1 → (d < 44 ∨ 50 ≤ d) → M6 d = M d := fun d h1 h2 => (o6 d (by unfold RSt; omega)).trans ((o4 d (by omega)).trans (c d (by unfold RT RSt; omega)))
      have t6 : M6 1 1 = M 1 1 := by rw [o6 1 (by unfold RSt; omega), o4 1 (by omega)]; exact b
      have O6 : Off CI M M6 := fun d hd => by
        unfold CI at hd
        exact n6 d (by omega) (by omega)
      refine up_tot 2 (fun i M' => (∀ j, j < i → M' 6 j = iz 0) ∧ M' 3 2 = iz 0 ∧ M' 3 1 = M 3 1 ∧ ∀ d, d ≠ 6 → d ≠ 3 → M' d = M6 d) ?_ ?_ 9999 0 _ (by omega) ⟨fun j hj => absurd hj (Nat.not_lt_zero j), by rw [mw_at, if_pos rfl]; rfl, by rw [mw_at, if_neg (by omega)]; exact congrFun (n6 3 (by omega) (by omega)) 1, fun d _ h3 => mw_ne h3⟩ (by omega)
      · intro K i M' hi ⟨e1, e2, e3, e4⟩ hK
        unfold f_X5_load_b51
        rw [if_neg (by rw [show (2 : Int32) = iz ((2 : Nat) : Int) from rfl, lez (by omega) (by omega)]; omega), if_pos (inb_n hi (by omega)), cl_n (by omega), a1z]
        refine hK _ ⟨fun j hj => ?_, by rw [mw_ne (by omega)]; exact e2, by rw [mw_ne (by omega)]; exact e3, fun d h6 h3 => (mw_ne h6).trans (e4 d h6 h3)⟩
        rw [mw_at]
        by_cases e : j = i
        · rw [if_pos e, nar_b0]
        · rw [if_neg e]; exact e1 j (by omega)
      · intro K M' ⟨e1, e2, e3, e4⟩
        unfold f_X5_load_b51
        have s' : StRep M' 0 (rdP D.1) := s6.same (fun d x y => e4 d (by omega) (by omega))
        rw [if_pos (by decide), s'.2.1]
        obtain ⟨⟨a1, a2⟩, _, ⟨nx, c1, c2, c3, c4⟩, dd, e⟩ := hM
        refine Tot.mk ⟨rfl, ⟨⟨?_, fun i hi => ?_⟩, s', ⟨nx, c1, e3.trans c2, e2, fun j hj => absurd hj (Nat.not_lt_zero j)⟩, fun s hs => ⟨e1 s hs, fun hf => absurd (show false = true from hf) (by decide)⟩, e.same (fun d x y => (e4 d (by omega) (by omega)).trans (n6 d (by omega) (by omega)))⟩, fun d hd => (e4 d (by unfold CI at hd; omega) (by unfold CI at hd; omega)).trans (O6 d hd)⟩
        · show M' 1 1 = _
          rw [e4 1 (by omega) (by omega), t6]; exact a1
        · show M' 2 i = _
          rw [e4 2 (by omega) (by omega), n6 2 (by omega) (by omega)]; exact a2 i hi
  · rw [if_neg k]
    refine ⟨hD, fun M hM => ?_⟩
    have hr : -9 ≤ rdE D.1 ∧ rdE D.1 ≤ 1000 := by
      unfold rdE
      by_cases k1 : sgn D.1 0 = 77
      · rw [if_neg (fun z => z k1)]
        by_cases k2 : 1 ≤ dig D.1 1 ∧ dig D.1 1 ≤ 4
        · rw [if_neg (fun z => z k2)]
          by_cases k3 : 0 ≤ dig D.1 2 ∧ dig D.1 2 ≤ 1
          · rw [if_neg (fun z => z k3)]
            by_cases k4 : 0 ≤ dig D.1 3 ∧ 1 ≤ hB D.1 ∧ hB D.1 ≤ 16
            · rw [if_neg (fun z => z k4)]
              have := fin_le (T := D.1) ⟨k1, k2, k3, k4⟩
              have : D.1.1 ≤ 140 := hD.1
              split <;> omega
            · rw [if_pos k4]; omega
          · rw [if_pos k3]; omega
        · rw [if_pos k2]; omega
      · rw [if_pos k1]; omega
    have e9 : ¬ (iz (rdE D.1) = -9) := by rw [show (-9 : Int32) = iz (-9) from rfl, iz_eq (by omega) (by omega) (by omega) (by omega)]; exact k
    obtain ⟨⟨x, M2⟩, hx, a, b, c, d⟩ := readInto_tot (TOk_D hD) hM.1.1 hM.1.2
    have a : x = iz (rdE D.1) := a
    have c : Off RT M M2 := c
    unfold f_X5_load
    rw [hx, ob_some, a, if_neg e9]
    exact Tot.mk ⟨rfl, hM.rd b c, c.wk CI_RT⟩
theorem k_insertBeat (D : Ds) (hD : DOk D) {x0 : Int32} {v : Int} (hx0 : x0 = iz v) (v1 : -2147483648 ≤ v) (v2 : v < 2147483648) : Cl (f_X5_insertBeat x0) D (if 0 ≤ v ∧ v ≤ gB (dP D) then (if gB (dP D) < 16 then (.ok (iz ((gB (dP D) + 1 : Nat) : Int)), dPut (dRem D) (pmend (popn (dP D) v.toNat))) else (.error 1, D)) else (.error 2, D)) := by
  subst hx0
  have hP := hD.2.2.1
  have hB := hP.1.1.2
  have l0 : (iz v < 0) = (v < 0) := by rw [show (0 : Int32) = iz 0 from rfl, iz_lt v1 v2 (by omega) (by omega)]
  have lB : (iz v ≤ iz (gB (dP D) : Int)) = (v ≤ gB (dP D)) := iz_le v1 v2 (by omega) (by omega)
  have l16 : (iz (gB (dP D) : Int) < 16) = (gB (dP D) < 16) := by rw [show (16 : Int32) = iz ((16 : Nat) : Int) from rfl, ltz (by omega) (by omega)]
  have e16 : (iz (gB (dP D) : Int) = 16) = (gB (dP D) = 16) := by
    rw [show (16 : Int32) = iz 16 from rfl, iz_eq (by omega) (by omega) (by omega) (by omega)]
    exact propext ⟨fun h => by omega, fun h => by omega⟩
  by_cases c : 0 ≤ v ∧ v ≤ gB (dP D)
  · rw [if_pos c]
    obtain ⟨t, rfl⟩ : ∃ t : Nat, v = (t : Int) := ⟨v.toNat, by omega⟩
    try simp only [Int.toNat_natCast]
    have ht : t ≤ gB (dP D) := by omega
    by_cases k : gB (dP D) < 16
    · rw [if_pos k]
      refine Cl.yes (D' := dPut (dRem D) (pmend (popn (dP D) t))) (dPut_Ok (dRem_Ok hD) (pmend_Ok (popn_W hP.1 k ht))) (iz ((gB (dP D) + 1 : Nat) : Int)) (fun M hM => ?_)
      · unfold f_X5_insertBeat
        rw [if_neg (by rw [l0]; omega), hM.2.1.2.1, if_pos (by rw [lB]; omega), if_pos (by rw [l16]; exact k)]
        refine c_act hM hD _ (fun _ M2 h2 => ?_)
        refine Tot.ob ((openBeat_tot h2 hP.1.1 k ht).mono ?_)
        intro ⟨_, M3⟩ ⟨a, o⟩
        refine Tot.ob ((dropLooseHolds_tot a (popn_W hP.1 k ht)).mono ?_)
        intro ⟨_, M4⟩ ⟨a4, o4⟩
        exact Tot.mk ⟨congrArg _ a4.2.1, a4, Off.tr o o4⟩
    · rw [if_neg k]
      refine Cl.no hD 1 (fun M hM => ?_)
      · unfold f_X5_insertBeat
        rw [if_neg (by rw [l0]; omega), hM.2.1.2.1, if_pos (by rw [lB]; omega), if_neg (by rw [l16]; exact k)]
  · rw [if_neg c]
    refine Cl.no hD 2 (fun M hM => ?_)
    · unfold f_X5_insertBeat
      rw [hM.2.1.2.1]
      by_cases d : v < 0
      · rw [if_pos (by rw [l0]; exact d)]
      · rw [if_neg (by rw [l0]; exact d), if_neg (by rw [lB]; omega)]
theorem k_removeBeat (D : Ds) (hD : DOk D) {x0 : Int32} {v : Int} (hx0 : x0 = iz v) (v1 : -2147483648 ≤ v) (v2 : v < 2147483648) : Cl (f_X5_removeBeat x0) D (if 0 ≤ v ∧ v < gB (dP D) then (if 1 < gB (dP D) then (.ok (iz ((gB (dP D) - 1 : Nat) : Int)), dPut (dRem D) (pmend (pcls (dP D) v.toNat))) else (.error 1, D)) else (.error 2, D)) := by
  subst hx0
  have hP := hD.2.2.1
  have hB := hP.1.1.2
  have l1 : ((1 : Int32) < iz (gB (dP D) : Int)) = (1 < gB (dP D)) := by rw [show (1 : Int32) = iz ((1 : Nat) : Int) from rfl, ltz (by omega) (by omega)]
  have e1 : (iz (gB (dP D) : Int) = 1) = (gB (dP D) = 1) := by
    rw [show (1 : Int32) = iz 1 from rfl, iz_eq (by omega) (by omega) (by omega) (by omega)]
    exact propext ⟨fun h => by omega, fun h => by omega⟩
  have rb : ∀ M, CRel M D → f_X5_requireBeat (iz v) M = if 0 ≤ v ∧ v < gB (dP D) then some (.ok (), M) else some (.error 2, M) := fun M hM => reqBeat hM hD v1 v2
  by_cases c : 0 ≤ v ∧ v < gB (dP D)
  · rw [if_pos c]
    obtain ⟨t, rfl⟩ : ∃ t : Nat, v = (t : Int) := ⟨v.toNat, by omega⟩
    try simp only [Int.toNat_natCast]
    have ht : t < gB (dP D) := by omega
    by_cases k : 1 < gB (dP D)
    · rw [if_pos k]
      refine Cl.yes (D' := dPut (dRem D) (pmend (pcls (dP D) t))) (dPut_Ok (dRem_Ok hD) (pmend_Ok (pcls_W hP.1 k t))) (iz ((gB (dP D) - 1 : Nat) : Int)) (fun M hM => ?_)
      · unfold f_X5_removeBeat
        rw [rb M hM, if_pos c, oe_ok, hM.2.1.2.1, if_pos (by rw [l1]; exact k)]
        refine c_act hM hD _ (fun _ M2 h2 => ?_)
        refine Tot.ob ((closeBeat_tot h2 hP.1.1 k ht).mono ?_)
        intro ⟨_, M3⟩ ⟨a, o⟩
        refine Tot.ob ((dropLooseHolds_tot a (pcls_W hP.1 k t)).mono ?_)
        intro ⟨_, M4⟩ ⟨a4, o4⟩
        exact Tot.mk ⟨congrArg _ a4.2.1, a4, Off.tr o o4⟩
    · rw [if_neg k]
      refine Cl.no hD 1 (fun M hM => ?_)
      · unfold f_X5_removeBeat
        rw [rb M hM, if_pos c, oe_ok, hM.2.1.2.1, if_neg (by rw [l1]; exact k)]
  · rw [if_neg c]
    refine Cl.no hD 2 (fun M hM => ?_)
    · unfold f_X5_removeBeat
      rw [rb M hM, if_neg c, oe_er]
