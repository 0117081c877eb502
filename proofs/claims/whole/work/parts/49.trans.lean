theorem pmov_Ok {P : Pg} (hP : PgOk P) {s : Nat} {d : Int} (hc : canMv P s d) : PgOk (pmov P s d) := by
  refine ⟨pmov_W hP.1 hc, fun s' b hs hb h99 => ?_⟩
  have hs : s' < gS P := hs
  have hb : b < gB P := hb
  have h99 : (if s' = s ∧ pit (gC P s' b) then gC P s' b + d else gC P s' b) = 99 := h99
  have h9 : gC P s' b = 99 := by
    split at h99
    · rename_i z
      have := hc b hb (by rw [← z.1]; exact z.2)
      rw [← z.1] at this
      omega
    · exact h99
  have hp := hP.2 s' b hs hb h9
  refine ⟨hp.1, ?_⟩
  show (if s' = s ∧ pit (gC P s' (b - 1)) then gC P s' (b - 1) + d else gC P s' (b - 1)) ≠ -9
  split
  · rename_i z
    have := hc (b - 1) (by omega) (by rw [← z.1]; exact z.2)
    rw [← z.1] at this
    omega
  · exact hp.2
theorem reqStaff {M : Mem} {D : Ds} (h : CRel M D) (hD : DOk D) {s : Int} (s1 : -2147483648 ≤ s) (s2 : s < 2147483648) : f_X5_requireStaff (iz s) M = if 0 ≤ s ∧ s < gS (dP D) then some (.ok (), M) else some (.error 2, M) := by
  unfold f_X5_requireStaff
  rw [hasStaff_eq h.2.1 hD.2.2.1.1.1 s1 s2, ob_some]
  by_cases c : 0 ≤ s ∧ s < gS (dP D)
  · rw [if_neg (by rw [bz_t c]; decide), if_pos c]
  · rw [if_pos (show bz (0 ≤ s ∧ s < gS (dP D)) = 0 from bz_f c), if_neg c]
theorem g_transpose (D : Ds) (hD : DOk D) (x y : Int32) : Agree h_L_transpose (f_X5_transpose x y) (f_X6_transpose x y) D := by
  obtain ⟨s, rfl, s1, s2⟩ := izself x
  obtain ⟨d, rfl, d1, d2⟩ := izself y
  have hP := hD.2.2.1
  have no51 : ∀ (M : Mem) (n : Nat), 0 < n → n < 100 → f_X6_transpose_b51 (iz s) (iz d) (iz n) M = some (0, mw M 27 0 (iz n)) := fun M n h1 h2 => by
    unfold f_X6_transpose_b51
    exact ref_no h1 h2 M _ _
  have el : (iz d < -60) = (d < -60) := by rw [show (-60 : Int32) = iz (-60) from rfl, iz_lt d1 d2 (by omega) (by omega)]
  have eu : (iz d ≤ 60) = (d ≤ 60) := by rw [show (60 : Int32) = iz 60 from rfl, iz_le d1 d2 (by omega) (by omega)]
  have mi : ∀ M, f_X6_in (Int32.toInt64 (iz d)) (-60) 60 M = some (bz (-60 ≤ d ∧ d ≤ 60), M) := fun M => by
    rw [show (-60 : Int64) = Int32.toInt64 (iz (-60)) by decide, show (60 : Int64) = Int32.toInt64 (iz 60) by decide, in_eq M d1 d2 (by omega) (by omega) (by omega) (by omega)]
  have ms : ∀ M, MRel M D → f_X6_isStaff 30 (iz s) M = some (bz (0 ≤ s ∧ s < gS (dP D)), M) := fun M hM => isStaff_eq hM.2.1 hP.1.1 rfl s1 s2
  by_cases cs : 0 ≤ s ∧ s < gS (dP D)
  · obtain ⟨s', rfl⟩ : ∃ s' : Nat, s = (s' : Int) := ⟨s.toNat, by omega⟩
    have hs : s' < gS (dP D) := by omega
    by_cases cd : -60 ≤ d ∧ d ≤ 60
    · by_cases cm : canMv (dP D) s' d
      · refine Agree.yes (D' := dPut (dRem D) (pmov (dP D) s' d)) (dPut_Ok (dRem_Ok hD) (pmov_Ok hP cm)) (iz (nPit (dP D) s' (gB (dP D)))) (fun M hM => ?_) (fun M hM => ?_)
        · unfold f_X5_transpose
          rw [reqStaff hM hD s1 s2, if_pos cs, oe_ok, if_neg (by rw [el]; omega), if_pos (by rw [eu]; omega), allowsMoving_eq hM.2.1 hP.1 hs cd.1 cd.2, ob_some, if_neg (by rw [bz_t cm]; decide)]
          refine c_act hM hD _ (fun _ M2 h2 => ?_)
          refine Tot.ob ((moveStaff_tot h2 hP.1 hs cd.1 cd.2 cm).mono ?_)
          intro ⟨a, M3⟩ ⟨e, h3, o⟩
          exact Tot.mk ⟨congrArg _ e, h3, o⟩
        · obtain ⟨c, e, hc, _⟩ := canShift_eq hM.2.1 hP.1 rfl hs cd.1 cd.2
          unfold f_X6_transpose
          rw [ms M hM, ob_some, if_neg (by rw [bz_t cs]; decide), mi, ob_some, if_neg (by rw [bz_t cd]; decide), e, ob_some, if_neg (by rw [hc cm]; decide)]
          unfold f_X6_transpose_b51
          rw [ref_yes]
          refine m_go hM hD _ (fun _ M2 h2 => ?_)
          refine Tot.ob ((mshift_tot h2 hP.1 rfl hs cd.1 cd.2).mono ?_)
          intro ⟨a, M3⟩ ⟨e, h3, o⟩
          exact Tot.mk ⟨e, h3, o⟩
      · refine Agree.no hD 1 3 rfl (by omega) (fun M hM => ?_) (fun M hM => ?_)
        · unfold f_X5_transpose
          rw [reqStaff hM hD s1 s2, if_pos cs, oe_ok, if_neg (by rw [el]; omega), if_pos (by rw [eu]; omega), allowsMoving_eq hM.2.1 hP.1 hs cd.1 cd.2, ob_some, if_pos (show bz (canMv (dP D) s' d) = 0 from bz_f cm)]
        · obtain ⟨c, e, _, hc⟩ := canShift_eq hM.2.1 hP.1 rfl hs cd.1 cd.2
          unfold f_X6_transpose
          rw [ms M hM, ob_some, if_neg (by rw [bz_t cs]; decide), mi, ob_some, if_neg (by rw [bz_t cd]; decide), e, ob_some, if_pos (hc cm)]
          exact ⟨_, no51 M 3 (by omega) (by omega)⟩
    · refine Agree.no hD 0 2 rfl (by omega) (fun M hM => ?_) (fun M hM => ?_)
      · unfold f_X5_transpose
        rw [reqStaff hM hD s1 s2, if_pos cs, oe_ok]
        by_cases c : d < -60
        · rw [if_pos (by rw [el]; exact c)]
        · rw [if_neg (by rw [el]; exact c), if_neg (by rw [eu]; omega)]
      · unfold f_X6_transpose
        rw [ms M hM, ob_some, if_neg (by rw [bz_t cs]; decide), mi, ob_some, if_pos (show bz (-60 ≤ d ∧ d ≤ 60) = 0 from bz_f cd)]
        exact ⟨_, no51 M 2 (by omega) (by omega)⟩
  · refine Agree.no hD 2 1 rfl (by omega) (fun M hM => ?_) (fun M hM => ?_)
    · unfold f_X5_transpose
      rw [reqStaff hM hD s1 s2, if_neg cs, oe_er]
    · unfold f_X6_transpose
      rw [ms M hM, ob_some, if_pos (show bz (0 ≤ s ∧ s < gS (dP D)) = 0 from bz_f cs)]
      exact ⟨_, no51 M 1 (by omega) (by omega)⟩
