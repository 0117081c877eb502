theorem pmov_Ok {P : Pg} (hP : PgOk P) {s : Nat} {d : Int} (hc : canMv P s d) : PgOk (pmov P s d) := by
  refine ⟨pmov_W hP.1 hc, fun s' b hs hb h99 => ?_⟩
  have hs : s' < gS P := hs
  have hb : b < gB P := hb
  have h99 : (if s' = s ∧ pit (gC P s' b) then gC P s' b + d else gC P s' b) = 99 := h99
  have h9 : gC P s' b = 99 := by
    split at h99
    · rename_i z
      have := hc b hb (by rw [← z.1]; exact z.2)
      rw [← z.1] at this
      omega
    · exact h99
  have hp := hP.2 s' b hs hb h9
  refine ⟨hp.1, ?_⟩
  show (if s' = s ∧ pit (gC P s' (b - 1)) then gC P s' (b - 1) + d else gC P s' (b - 1)) ≠ -9
  split
  · rename_i z
    have := hc (b - 1) (by omega) (by rw [← z.1]; exact z.2)
    rw [← z.1] at this
    omega
  · exact hp.2
theorem reqStaff {M : Mem} {D : Ds} (h : CRel M D) (hD : DOk D) {s : Int} (s1 : -2147483648 ≤ s) (s2 : s < 2147483648) : f_X5_requireStaff (iz s) M = if 0 ≤ s ∧ s < gS (dP D) then some (.ok (), M) else some (.error 2, M) := by
  unfold f_X5_requireStaff
  rw [hasStaff_eq h.2.1 hD.2.2.1.1.1 s1 s2, ob_some]
  by_cases c : 0 ≤ s ∧ s < gS (dP D)
  · rw [if_neg (by rw [bz_t c]; decide), if_pos c]
  · rw [if_pos (show bz (0 ≤ s ∧ s < gS (dP D)) = 0 from bz_f c), if_neg c]
