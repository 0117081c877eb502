theorem g_staff (D : Ds) (hD : DOk D) (z : Int32) : Agree h_L_staff (f_X5_staff z) (f_X6_staff z) D := by
  have hP := hD.2.2.1
  have h1 := hP.1.1.1
  have i6 : inb 6 72 := by decide
  have no : ∀ (M : Mem), f_X6_staff_b25 z 1 M = some (0, mw M 27 0 (iz ((1 : Nat) : Int))) := fun M => by
    unfold f_X6_staff_b25
    exact ref_no (n := 1) (by omega) (by omega) M _ _
  have e4 : (iz (gS (dP D) : Int) = 4) = (gS (dP D) = 4) := by
    rw [show (4 : Int32) = iz 4 from rfl, iz_eq (by omega) (by omega) (by omega) (by omega)]
    exact propext ⟨fun h => by omega, fun h => by omega⟩
  have e1 : (iz (gS (dP D) : Int) = 1) = (gS (dP D) = 1) := by
    rw [show (1 : Int32) = iz 1 from rfl, iz_eq (by omega) (by omega) (by omega) (by omega)]
    exact propext ⟨fun h => by omega, fun h => by omega⟩
  have l4 : (iz (gS (dP D) : Int) < 4) = (gS (dP D) < 4) := by rw [show (4 : Int32) = iz ((4 : Nat) : Int) from rfl, ltz (by omega) (by omega)]
  have l1 : ((1 : Int32) < iz (gS (dP D) : Int)) = (1 < gS (dP D)) := by rw [show (1 : Int32) = iz ((1 : Nat) : Int) from rfl, ltz (by omega) (by omega)]
  by_cases c : z = 0
  · by_cases k : 1 < gS (dP D)
    · refine Agree.yes (D' := dPut (dRem D) (pdrp (dP D))) (dPut_Ok (dRem_Ok hD) (pdrp_Ok hP k)) (iz ((gS (dP D) - 1 : Nat) : Int)) (fun M hM => ?_) (fun M hM => ?_)
      · unfold f_X5_staff f_X5_staff_b37
        rw [if_pos c, hM.2.1.1, if_pos (by rw [l1]; exact k)]
        refine c_act hM hD _ (fun _ M2 h2 => ?_)
        rw [if_pos c]
        refine Tot.ob ((dropStaff_tot h2 hP.1.1 k).mono ?_)
        intro ⟨_, M3⟩ ⟨a, o⟩
        exact Tot.mk ⟨congrArg _ a.1, a, o⟩
      · unfold f_X6_staff f_X6_staff_b17
        rw [if_pos i6, if_pos c, c6, hM.2.1.S, if_neg (by rw [e1]; omega)]
        unfold f_X6_staff_b25
        rw [ref_yes]
        refine m_go hM hD _ (fun _ M2 h2 => ?_)
        rw [if_pos c, if_pos i6, if_pos i6, c6, h2.S, pm1 _ (by omega)]
        refine (mstaff_tot (M := mw M2 30 6 (iz ((gS (dP D) - 1 : Nat) : Int))) (P := dP D) z 0 (by rw [if_pos c]) (n := gS (dP D) - 1) (by omega) (by rw [mw_at, if_pos rfl])).mono ?_
        intro ⟨y, M3⟩ ⟨q1, q2, q3, q4, o⟩
        have o : Off (fun d => d = 30) (mw M2 30 6 (iz ((gS (dP D) - 1 : Nat) : Int))) M3 := o
        have q4 : ∀ j, j ≠ 6 → (j < 8 + 16 * (gS (dP D) - 1) ∨ 8 + 16 * (gS (dP D) - 1) + 16 ≤ j) → M3 30 j = M2 30 j := fun j a b => (q4 j a b).trans (by rw [mw_at, if_neg a])
        have o1 : Off (fun d => d = 30) M2 (mw M2 30 6 (iz ((gS (dP D) - 1 : Nat) : Int))) := Off.rf.put rfl
        refine ⟨q1, ⟨fun j hj => (q4 (0 + j) (by omega) (by omega)).trans (h2.1 j hj), q2, (q4 (0 + 7) (by omega) (by omega)).trans h2.2.2.1, fun s b hs hb => ?_⟩, o1.tr o⟩
        have hs : s < gS (dP D) - 1 := hs
        have hb : b < gB (dP D) := hb
        have hx := pg_lt hP.1.1 (s := s) (by omega) hb
        have h16 := hP.1.1.2
        exact (q4 (0 + (8 + (16 * s + b))) (by omega) (by omega)).trans (h2.2.2.2 s b (by omega) hb)
    · refine Agree.no hD 1 1 rfl (by omega) (fun M hM => ?_) (fun M hM => ?_)
      · unfold f_X5_staff
        rw [if_pos c, hM.2.1.1, if_neg (by rw [l1]; exact k)]
      · unfold f_X6_staff f_X6_staff_b17
        rw [if_pos i6, if_pos c, c6, hM.2.1.S, if_pos (by rw [e1]; omega)]
        exact ⟨_, no M⟩
  · by_cases k : gS (dP D) < 4
    · refine Agree.yes (D' := dPut (dRem D) (padd (dP D))) (dPut_Ok (dRem_Ok hD) (padd_Ok hP k)) (iz ((gS (dP D) + 1 : Nat) : Int)) (fun M hM => ?_) (fun M hM => ?_)
      · unfold f_X5_staff f_X5_staff_b37
        rw [if_neg c, hM.2.1.1, if_pos (by rw [l4]; exact k)]
        refine c_act hM hD _ (fun _ M2 h2 => ?_)
        rw [if_neg c]
        refine Tot.ob ((addStaff_tot h2 hP.1.1 k).mono ?_)
        intro ⟨_, M3⟩ ⟨a, o⟩
        exact Tot.mk ⟨congrArg _ a.1, a, o⟩
      · unfold f_X6_staff f_X6_staff_b17
        rw [if_pos i6, if_neg c, c6, hM.2.1.S, if_neg (by rw [e4]; omega)]
        unfold f_X6_staff_b25
        rw [ref_yes]
        refine m_go hM hD _ (fun _ M2 h2 => ?_)
        rw [if_neg c]
        refine (mstaff_tot (P := dP D) z 1 (by rw [if_neg c]) (n := gS (dP D)) k h2.S).mono ?_
        intro ⟨y, M3⟩ ⟨q1, q2, q3, q4, o⟩
        refine ⟨q1, ⟨fun j hj => (q4 (0 + j) (by omega) (by omega)).trans (h2.1 j hj), q2, (q4 (0 + 7) (by omega) (by omega)).trans h2.2.2.1, fun s b hs hb => ?_⟩, o⟩
        have hs : s < gS (dP D) + 1 := hs
        have hb : b < gB (dP D) := hb
        have h16 := hP.1.1.2
        show M3 30 (0 + (8 + (16 * s + b))) = iz (if s = gS (dP D) then -9 else gC (dP D) s b)
        by_cases e : s = gS (dP D)
        · rw [if_pos e, e, Nat.zero_add]
          exact q3 b (by omega)
        · rw [if_neg e]
          exact (q4 (0 + (8 + (16 * s + b))) (by omega) (by omega)).trans (h2.2.2.2 s b (by omega) hb)
    · refine Agree.no hD 1 1 rfl (by omega) (fun M hM => ?_) (fun M hM => ?_)
      · unfold f_X5_staff
        rw [if_neg c, hM.2.1.1, if_neg (by rw [l4]; exact k)]
      · unfold f_X6_staff f_X6_staff_b17
        rw [if_pos i6, if_neg c, c6, hM.2.1.S, if_pos (by rw [e4]; omega)]
        exact ⟨_, no M⟩
