theorem nar_b1 : vp_nar .boolean 1 = iz 1 := by decide
theorem nar_b0 : vp_nar .boolean 0 = iz 0 := by decide
def dSav (D : Ds) (s : Nat) : Ds := (D.1, D.2.1, D.2.2.1, (fun s' => if s' = s then true else dF D s', fun s' => if s' = s then dP D else dS D s'))
def dRes (D : Ds) (P : Pg) : Ds := (D.1, P, (0, dQ D), D.2.2.2)
theorem CRel.rest {M M' : Mem} {D : Ds} {P : Pg} (h : CRel M D) (hs : StRep M' 0 P) (e2 : M' 3 2 = iz 0) (e1 : M' 3 1 = M 3 1) (ne : ∀ d, (d < 44 ∨ 47 ≤ d) → d ≠ 3 → M' d = M d) : CRel M' (dRes D P) := by
  obtain ⟨⟨a1, a2⟩, b, ⟨nx, c1, c2, c3, c4⟩, d, e⟩ := h
  exact ⟨⟨by rw [ne 1 (by omega) (by omega)]; exact a1, fun i hi => by rw [ne 2 (by omega) (by omega)]; exact a2 i hi⟩, hs, ⟨nx, c1, e1.trans c2, e2, fun j hj => absurd hj (Nat.not_lt_zero j)⟩, fun s hs => ⟨by rw [ne 6 (by omega) (by omega)]; exact (d s hs).1, fun hf => ((d s hs).2 hf).same (fun d h1 h2 => ne d (by have := iSt_eq (2 + s); omega) (by have := iSt_eq (2 + s); omega))⟩, e.same (fun d h1 h2 => ne d (by omega) (by omega))⟩
theorem reqSlot {M : Mem} {v : Int} (v1 : -2147483648 ≤ v) (v2 : v < 2147483648) : f_X5_requireSlot (iz v) M = if 0 ≤ v ∧ v < 2 then some (.ok (), M) else some (.error 2, M) := by
  unfold f_X5_requireSlot
  have e1 : (iz v < 0) = (v < 0) := by rw [show (0 : Int32) = iz 0 from rfl, iz_lt v1 v2 (by omega) (by omega)]
  have e2 : (iz v < 2) = (v < 2) := by rw [show (2 : Int32) = iz 2 from rfl, iz_lt v1 v2 (by omega) (by omega)]
  by_cases c : v < 0
  · rw [if_pos (by rw [e1]; exact c), if_neg (by omega)]
  · rw [if_neg (by rw [e1]; exact c)]
    by_cases d : v < 2
    · rw [if_pos (by rw [e2]; exact d), if_pos (by omega)]
    · rw [if_neg (by rw [e2]; exact d), if_neg (by omega)]
theorem dSav_Ok {D : Ds} (hD : DOk D) (s : Nat) : DOk (dSav D s) := by
  refine ⟨hD.1, hD.2.1, hD.2.2.1, hD.2.2.2.1, hD.2.2.2.2.1, fun s' hs hf => ?_⟩
  have hf : (if s' = s then true else dF D s') = true := hf
  show PgOk (if s' = s then dP D else dS D s')
  by_cases e : s' = s
  · rw [if_pos e]; exact hD.2.2.1
  · rw [if_neg e] at hf ⊢; exact hD.2.2.2.2.2 s' hs hf
theorem dRes_Ok {D : Ds} (hD : DOk D) {P : Pg} (hP : PgOk P) : DOk (dRes D P) := ⟨hD.1, hD.2.1, hP, Nat.zero_le _, fun j hj => absurd hj (Nat.not_lt_zero j), hD.2.2.2.2.2⟩
