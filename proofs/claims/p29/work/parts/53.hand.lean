theorem reqBeat {M : Mem} {D : Ds} (h : CRel M D) (hD : DOk D) {b : Int} (b1 : -2147483648 ≤ b) (b2 : b < 2147483648) : f_X5_requireBeat (iz b) M = if 0 ≤ b ∧ b < gB (dP D) then some (.ok (), M) else some (.error 2, M) := by
  unfold f_X5_requireBeat
  rw [hasBeat_eq h.2.1 hD.2.2.1.1.1 b1 b2, ob_some]
  by_cases d : 0 ≤ b ∧ b < gB (dP D)
  · rw [if_neg (by rw [bz_t d]; decide), if_pos d]
  · rw [if_pos (show bz (0 ≤ b ∧ b < gB (dP D)) = 0 from bz_f d), if_neg d]
