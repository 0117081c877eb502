theorem reqCell {M : Mem} {D : Ds} (h : CRel M D) (hD : DOk D) {s b : Int} (s1 : -2147483648 ≤ s) (s2 : s < 2147483648) (b1 : -2147483648 ≤ b) (b2 : b < 2147483648) : f_X5_requireCell (iz s) (iz b) M = if (0 ≤ s ∧ s < gS (dP D)) ∧ 0 ≤ b ∧ b < gB (dP D) then some (.ok (), M) else some (.error 2, M) := by
  unfold f_X5_requireCell f_X5_requireStaff f_X5_requireBeat
  have hP := hD.2.2.1.1.1
  rw [hasStaff_eq h.2.1 hP s1 s2, ob_some]
  by_cases c : 0 ≤ s ∧ s < gS (dP D)
  · rw [if_neg (by rw [bz_t c]; decide), oe_ok, hasBeat_eq h.2.1 hP b1 b2, ob_some]
    by_cases d : 0 ≤ b ∧ b < gB (dP D)
    · rw [if_neg (by rw [bz_t d]; decide), oe_ok, if_pos ⟨c, d⟩]
    · rw [if_pos (show bz (0 ≤ b ∧ b < gB (dP D)) = 0 from bz_f d), oe_er, if_neg (fun z => d z.2)]
  · rw [if_pos (show bz (0 ≤ s ∧ s < gS (dP D)) = 0 from bz_f c), oe_er, if_neg (fun z => c z.1)]
