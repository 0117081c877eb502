section RC
variable {M : Mem} {T : Tx} {P : Pg} {s b p : Nat}
theorem signAt_eq (hT : TOk T) (h1 : M 1 1 = iz T.1) (h2 : ∀ i, i < T.1 → M 2 i = iz (T.2 i)) (p : Nat) (hp : p < 1000) : f_X4_signAt (iz p) M = some (iz (sgn T p), M) := by
  unfold f_X4_signAt sgn
  have hN := hT.1
  rw [h1, if_neg (show ¬ iz (p : Int) < 0 by rw [show (0 : Int32) = iz ((0 : Nat) : Int) from rfl, ltz (by omega) (by omega)]; omega)]
  by_cases c : p < T.1
  · rw [if_neg (by rw [lez (by omega) (by omega)]; omega), if_pos (inb_n (by omega) (by omega)), cl_n (by omega), h2 p c, if_pos c]
  · rw [if_pos (by rw [lez (by omega) (by omega)]; omega), if_neg c]; rfl
theorem digitAt_eq (hT : TOk T) (h1 : M 1 1 = iz T.1) (h2 : ∀ i, i < T.1 → M 2 i = iz (T.2 i)) (p : Nat) (hp : p < 1000) : f_X4_digitAt (iz p) M = some (iz (dig T p), M) := by
  unfold f_X4_digitAt dig
  have hr := sgn_rng hT p
  rw [signAt_eq hT h1 h2 p hp, ob_some]
  have e1 : (iz (sgn T p) < 48) = (sgn T p < 48) := by rw [show (48 : Int32) = iz 48 from rfl, iz_lt (by omega) (by omega) (by omega) (by omega)]
  have e2 : (57 < iz (sgn T p)) = (57 < sgn T p) := by rw [show (57 : Int32) = iz 57 from rfl, iz_lt (by omega) (by omega) (by omega) (by omega)]
  by_cases c : sgn T p < 48
  · rw [if_pos (by rw [e1]; exact c), if_neg (by omega)]; rfl
  · rw [if_neg (by rw [e1]; exact c)]
    by_cases d : 57 < sgn T p
    · rw [if_pos (by rw [e2]; exact d), if_neg (by omega)]; rfl
    · rw [if_neg (by rw [e2]; exact d), if_pos (by omega), show (48 : Int32) = iz 48 from rfl, iz_sub]
def RT (d : Nat) : Prop := d = 1 ∨ RSt 1 d
abbrev RCq (M : Mem) (P : Pg) (s b : Nat) (r : Bool × Nat × Int) (x : Int32 × Mem) : Prop := x.1 = iz (b01 r.1) ∧ x.2 1 2 = iz (r.2.1 : Nat) ∧ x.2 1 1 = M 1 1 ∧ (r.1 = true → StRep x.2 1 (pcel P (cset (gC P) s b r.2.2))) ∧ Off RT M x.2
theorem readCell_tot (hT : TOk T) (h1 : M 1 1 = iz T.1) (h2 : ∀ i, i < T.1 → M 2 i = iz (T.2 i)) (hp : M 1 2 = iz p) (hp2 : p ≤ 140) (h : StRep M 1 P) (hP : PgD P) (hc : ∀ s b, cOk (gC P s b)) (hs : s < gS P) (hb : b < gB P) : Tot (f_X4_readCell 1 (iz s) (iz b) M) (RCq M P s b (rc T (pvs (gC P) s b) p)) := by
  have hB := hP.2
  have hS := hP.1
  have hr := sgn_rng hT p
  have hN := hT.1
  have i1 := iSt_eq 1
  have hpv : -9 ≤ pvs (gC P) s b ∧ pvs (gC P) s b ≤ 99 := by
    unfold pvs
    split
    · omega
    · exact cOk_lt (hc _ _)
  have ah : f_X3_allowsHold 1 (iz s) (iz b) M = some (bz (pvs (gC P) s b ≠ -9), M) := by
    unfold f_X3_allowsHold
    rw [show iz (b : Int) - 1 = iz ((b : Int) - 1) by rw [show (1 : Int32) = iz 1 from rfl, iz_sub], written_eq h hP (by omega) (by omega) (by omega) (by omega), ob_some]
    have e : wr P s ((b : Int) - 1) = pvs (gC P) s b := by
      unfold pvs
      by_cases c : b = 0
      · rw [if_pos c]; unfold wr; rw [if_neg (by omega)]
      · rw [if_neg c, show (b : Int) - 1 = ((b - 1 : Nat) : Int) by omega, wr_in hs (by omega)]
    rw [e]
    have e9 : (iz (pvs (gC P) s b) = -9) = (pvs (gC P) s b = -9) := by rw [show (-9 : Int32) = iz (-9) from rfl, iz_eq (by omega) (by omega) (by omega) (by omega)]
    by_cases c : pvs (gC P) s b = -9
    · rw [if_pos (by rw [e9]; exact c), bz_f (by simpa using c)]; rfl
    · rw [if_neg (by rw [e9]; exact c), bz_t c]; rfl
  have leaf : ∀ v : Int, rc T (pvs (gC P) s b) p = (true, p + 1, v) → Tot (f_X4_readCell_b50 (iz v) (iz b) (iz s) 1 M) (RCq M P s b (rc T (pvs (gC P) s b) p)) := fun v hv => by
    unfold f_X4_readCell_b50
    rw [put_eq h hP hs hb, ob_some, hv]
    have e : mw M (iSt 1 + 2) (s * 16 + b) (iz v) 1 2 = iz p := by rw [mw_ne (by omega)]; exact hp
    rw [e, a1z]
    have hst : StRep (mw M (iSt 1 + 2) (s * 16 + b) (iz v)) 1 (pcel P (cset (gC P) s b v)) := st_putc h hP hs hb v (fun _ _ _ _ => rfl)
    have o : Off RT M (mw (mw M (iSt 1 + 2) (s * 16 + b) (iz v)) 1 2 (iz ((p + 1 : Nat) : Int))) := (Off.rf.put (Or.inr ⟨by omega, by omega⟩)).put (Or.inl rfl)
    have w1 : mw (mw M (iSt 1 + 2) (s * 16 + b) (iz v)) 1 2 (iz ((p + 1 : Nat) : Int)) 1 2 = iz ((p + 1 : Nat) : Int) := by rw [mw_at, if_pos rfl]
    have w2 : mw (mw M (iSt 1 + 2) (s * 16 + b) (iz v)) 1 2 (iz ((p + 1 : Nat) : Int)) 1 1 = M 1 1 := by rw [mw_at, if_neg (by omega), mw_ne (by omega)]
    exact Tot.mk ⟨rfl, w1, w2, fun _ => hst.same (fun d x y => mw_ne (by omega)), o⟩
  have b65 : ¬ sgn T p = 45 → ¬ (sgn T p = 61 ∧ pvs (gC P) s b ≠ -9) → Tot (f_X4_readCell_b65 1 (iz s) (iz b) M) (RCq M P s b (rc T (pvs (gC P) s b) p)) := fun n1 n2 => by
    unfold f_X4_readCell_b65
    have d1 := dig_rng T p
    have d2 := dig_rng T (p + 1)
    rw [hp, digitAt_eq hT h1 h2 p (by omega), ob_some]
    have l0 : (iz (dig T p) < 0) = (dig T p < 0) := by rw [show (0 : Int32) = iz 0 from rfl, iz_lt (by omega) (by omega) (by omega) (by omega)]
    have l6 : (iz (dig T p) ≤ 6) = (dig T p ≤ 6) := by rw [show (6 : Int32) = iz 6 from rfl, iz_le (by omega) (by omega) (by omega) (by omega)]
    by_cases c : 0 ≤ dig T p ∧ dig T p ≤ 6
    · rw [if_neg (by rw [l0]; omega), if_pos (by rw [l6]; omega), hp, a1z]
      have w1 : mw M 1 2 (iz ((p + 1 : Nat) : Int)) 1 2 = iz ((p + 1 : Nat) : Int) := by rw [mw_at, if_pos rfl]
      have w0 : mw M 1 2 (iz ((p + 1 : Nat) : Int)) 1 1 = iz T.1 := by rw [mw_at, if_neg (by omega)]; exact h1
      have wt : ∀ i, i < T.1 → mw M 1 2 (iz ((p + 1 : Nat) : Int)) 2 i = iz (T.2 i) := fun i hi => by rw [mw_ne (by omega)]; exact h2 i hi
      have o1 : Off RT M (mw M 1 2 (iz ((p + 1 : Nat) : Int))) := Off.rf.put (Or.inl rfl)
      rw [w1, digitAt_eq hT w0 wt (p + 1) (by omega), ob_some]
      have e1 : (iz (dig T (p + 1)) = -1) = (dig T (p + 1) = -1) := by rw [show (-1 : Int32) = iz (-1) from rfl, iz_eq (by omega) (by omega) (by omega) (by omega)]
      have em : (10 : Int32) * iz (dig T p) + iz (dig T (p + 1)) = iz (10 * dig T p + dig T (p + 1)) := by rw [show (10 : Int32) = iz 10 from rfl, iz_mul, iz_add]
      by_cases e : dig T (p + 1) = -1
      · have hv : rc T (pvs (gC P) s b) p = (false, p + 1, -9) := by unfold rc; rw [if_neg n1, if_neg n2, if_pos c, if_neg (by omega)]
        rw [if_pos (by rw [e1]; exact e), hv]
        exact Tot.mk ⟨rfl, w1, w0.trans h1.symm, fun z => absurd (show false = true from z) (by decide), o1⟩
      · rw [if_neg (by rw [e1]; exact e), em, isPitch_eq (by omega) (by omega), ob_some]
        by_cases f : 0 ≤ 10 * dig T p + dig T (p + 1) ∧ 10 * dig T p + dig T (p + 1) ≤ 60
        · have hv : rc T (pvs (gC P) s b) p = (true, p + 2, 10 * dig T p + dig T (p + 1)) := by unfold rc; rw [if_neg n1, if_neg n2, if_pos c, if_pos (by omega)]
          rw [if_neg (by rw [bz_t f]; decide), w1, a1z, hv]
          have h3 : StRep (mw (mw M 1 2 (iz ((p + 1 : Nat) : Int))) 1 2 (iz ((p + 1 + 1 : Nat) : Int))) 1 P := h.same (fun d x y => (mw_ne (by omega)).trans (mw_ne (by omega)))
          rw [put_eq h3 hP hs hb, ob_some]
          have hst := st_putc h3 hP hs hb (10 * dig T p + dig T (p + 1)) (c := cset (gC P) s b (10 * dig T p + dig T (p + 1))) (fun _ _ _ _ => rfl)
          have o2 : Off RT M (mw (mw (mw M 1 2 (iz ((p + 1 : Nat) : Int))) 1 2 (iz ((p + 1 + 1 : Nat) : Int))) (iSt 1 + 2) (s * 16 + b) (iz (10 * dig T p + dig T (p + 1)))) := (o1.put (Or.inl rfl)).put (Or.inr ⟨by omega, by omega⟩)
          have w3 : mw (mw (mw M 1 2 (iz ((p + 1 : Nat) : Int))) 1 2 (iz ((p + 1 + 1 : Nat) : Int))) (iSt 1 + 2) (s * 16 + b) (iz (10 * dig T p + dig T (p + 1))) 1 2 = iz ((p + 2 : Nat) : Int) := by rw [mw_ne (by omega), mw_at, if_pos rfl]
          have w4 : mw (mw (mw M 1 2 (iz ((p + 1 : Nat) : Int))) 1 2 (iz ((p + 1 + 1 : Nat) : Int))) (iSt 1 + 2) (s * 16 + b) (iz (10 * dig T p + dig T (p + 1))) 1 1 = M 1 1 := by rw [mw_ne (by omega), mw_at, if_neg (by omega), mw_at, if_neg (by omega)]
          exact Tot.mk ⟨rfl, w3, w4, fun _ => hst, o2⟩
        · have hv : rc T (pvs (gC P) s b) p = (false, p + 1, -9) := by unfold rc; rw [if_neg n1, if_neg n2, if_pos c, if_neg (by omega)]
          rw [if_pos (show bz (0 ≤ 10 * dig T p + dig T (p + 1) ∧ 10 * dig T p + dig T (p + 1) ≤ 60) = 0 from bz_f f), hv]
          exact Tot.mk ⟨rfl, w1, w0.trans h1.symm, fun z => absurd (show false = true from z) (by decide), o1⟩
    · have hv : rc T (pvs (gC P) s b) p = (false, p, -9) := by unfold rc; rw [if_neg n1, if_neg n2, if_neg c]
      have done : Tot (some ((0 : Int32), M)) (RCq M P s b (false, p, -9)) := Tot.mk ⟨rfl, hp, rfl, fun z => absurd (show false = true from z) (by decide), Off.rf⟩
      rw [hv]
      by_cases e : dig T p < 0
      · rw [if_pos (by rw [l0]; exact e)]; exact done
      · rw [if_neg (by rw [l0]; exact e), if_neg (by rw [l6]; omega)]; exact done
  unfold f_X4_readCell f_X4_readCell_b33
  rw [hp, signAt_eq hT h1 h2 p (by omega), ob_some]
  have e45 : (iz (sgn T p) = 45) = (sgn T p = 45) := by rw [show (45 : Int32) = iz 45 from rfl, iz_eq (by omega) (by omega) (by omega) (by omega)]
  have e61 : (iz (sgn T p) = 61) = (sgn T p = 61) := by rw [show (61 : Int32) = iz 61 from rfl, iz_eq (by omega) (by omega) (by omega) (by omega)]
  by_cases c1 : sgn T p = 45
  · rw [if_pos (by rw [e45]; exact c1), if_pos (by rw [e45]; exact c1)]
    exact leaf (-9) (by unfold rc; rw [if_pos c1])
  · rw [if_neg (by rw [e45]; exact c1)]
    by_cases c2 : sgn T p = 61
    · rw [if_pos (by rw [e61]; exact c2), ah, ob_some]
      by_cases c3 : pvs (gC P) s b ≠ -9
      · rw [if_neg (by rw [bz_t c3]; decide), if_neg (by rw [e45]; exact c1)]
        exact leaf 99 (by unfold rc; rw [if_neg c1, if_pos ⟨c2, c3⟩])
      · rw [if_pos (show bz (pvs (gC P) s b ≠ -9) = 0 from bz_f c3)]
        exact b65 c1 (fun z => c3 z.2)
    · rw [if_neg (by rw [e61]; exact c2)]
      exact b65 c1 (fun z => c2 z.1)
end RC
