/-- reading changes nothing that is kept -/
theorem c_make {M : Mem} {D : Ds} (h : CRel M D) (hD : DOk D) : Tot (f_X2_make 0 M) (fun x => RD x.2 (dP D) ∧ CRel x.2 D ∧ Off CI M x.2) := by
  have i0 := iSt_eq 0
  refine (make_tot h.2.1 hD.2.2.1.1 h.2.2.2.2 (by omega) (by omega)).mono ?_
  intro x ⟨a, b, c⟩
  exact ⟨a, h.tmp (c.wk (fun d hd => Or.inr hd)) b, c.wk (fun d hd => by unfold RRd at hd; unfold CI; omega)⟩
theorem reqUpTo {M : Mem} {n : Nat} (hn : n < 100) {v : Int} (v1 : -2147483648 ≤ v) (v2 : v < 2147483648) : f_X5_requireUpTo (iz n) (iz v) M = if 0 ≤ v ∧ v ≤ n then some (.ok (), M) else some (.error 0, M) := by
  unfold f_X5_requireUpTo
  have e1 : (iz v < 0) = (v < 0) := by rw [show (0 : Int32) = iz 0 from rfl, iz_lt v1 v2 (by omega) (by omega)]
  have e2 : (iz v ≤ iz (n : Int)) = (v ≤ n) := iz_le v1 v2 (by omega) (by omega)
  by_cases c : v < 0
  · rw [if_pos (by rw [e1]; exact c), if_neg (by omega)]
  · rw [if_neg (by rw [e1]; exact c)]
    by_cases d : v ≤ n
    · rw [if_pos (by rw [e2]; exact d), if_pos (by omega)]
    · rw [if_neg (by rw [e2]; exact d), if_neg (by omega)]
