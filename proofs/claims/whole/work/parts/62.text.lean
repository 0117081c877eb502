theorem CRel.text {M M' : Mem} {D : Ds} {n : Nat} {t : Nat → Int} (h : CRel M D) (e : M' 1 1 = iz n) (e2 : ∀ i, i < n → M' 2 i = iz (t i)) (ne : ∀ d, d ≠ 1 → d ≠ 2 → M' d = M d) : CRel M' ((n, t), D.2) := by
  obtain ⟨⟨a1, a2⟩, b, ⟨nx, c1, c2, c3, c4⟩, d, z⟩ := h
  exact ⟨⟨e, e2⟩, b.same (fun d x y => ne d (by have := iSt_eq 0; omega) (by have := iSt_eq 0; omega)), ⟨nx, c1, by rw [ne 3 (by omega) (by omega)]; exact c2, by rw [ne 3 (by omega) (by omega)]; exact c3, fun j hj => (c4 j hj).same (fun d x y => ne d (by have := iSt_eq (4 + (nx + 14 - dH D + j) % 14); omega) (by have := iSt_eq (4 + (nx + 14 - dH D + j) % 14); omega))⟩, fun s hs => ⟨by rw [ne 6 (by omega) (by omega)]; exact (d s hs).1, fun hf => ((d s hs).2 hf).same (fun d x y => ne d (by have := iSt_eq (2 + s); omega) (by have := iSt_eq (2 + s); omega))⟩, z.same (fun d x y => ne d (by omega) (by omega))⟩
theorem MRel.text {M M' : Mem} {D : Ds} {n : Nat} {t : Nat → Int} (h : MRel M D) (e : M' 27 2 = iz n) (e9 : M' 27 9 = M 27 9) (e2 : ∀ i, i < n → M' 28 i = iz (t i)) (ne : ∀ d, d ≠ 27 → d ≠ 28 → M' d = M d) : MRel M' ((n, t), D.2) := by
  obtain ⟨⟨a1, a2⟩, b, ⟨c1, c2⟩, d⟩ := h
  exact ⟨⟨e, e2⟩, b.same (ne 30 (by omega) (by omega)), ⟨e9.trans c1, fun j hj => (c2 j hj).same (ne 33 (by omega) (by omega))⟩, fun s hs => ⟨by rw [ne 35 (by omega) (by omega)]; exact (d s hs).1, fun hf => ((d s hs).2 hf).same (ne 34 (by omega) (by omega))⟩⟩
theorem nar_char : ∀ n : Nat, n < 256 → vp_nar .char ((Int32.toUInt32 (iz (n : Int)) % 65536).toInt32) = iz (n : Int) := by decide +kernel
theorem g_append (D : Ds) (hD : DOk D) (x : Int32) : Agree h_L_append (f_X5_append x) (f_X6_append x) D := by
  obtain ⟨v, rfl, v1, v2⟩ := izself x
  have hN := hD.1
  have mi : ∀ M, f_X6_in (Int32.toInt64 (iz v)) 0 255 M = some (bz (0 ≤ v ∧ v ≤ 255), M) := fun M => by
    rw [show (0 : Int64) = Int32.toInt64 (iz 0) by decide, show (255 : Int64) = Int32.toInt64 (iz 255) by decide, in_eq M v1 v2 (by omega) (by omega) (by omega) (by omega)]
  have l0 : (iz v < 0) = (v < 0) := by rw [show (0 : Int32) = iz 0 from rfl, iz_lt v1 v2 (by omega) (by omega)]
  have l255 : (iz v ≤ 255) = (v ≤ 255) := by rw [show (255 : Int32) = iz 255 from rfl, iz_le v1 v2 (by omega) (by omega)]
  have lN : (iz (dN D : Int) < 140) = (dN D < 140) := by rw [show (140 : Int32) = iz ((140 : Nat) : Int) from rfl, ltz (by omega) (by omega)]
  have eN : (iz (dN D : Int) = 140) = (dN D = 140) := by
    rw [show (140 : Int32) = iz 140 from rfl, iz_eq (by omega) (by omega) (by omega) (by omega)]
    exact propext ⟨fun h => by omega, fun h => by omega⟩
  have isF : ∀ M, M 1 1 = iz (dN D) → f_X4_isFull M = some (if dN D < 140 then 0 else 1, M) := fun M e => by
    unfold f_X4_isFull
    rw [e]
    by_cases c : dN D < 140
    · rw [if_pos (by rw [lN]; exact c), if_pos c]
    · rw [if_neg (by rw [lN]; exact c), if_neg c]
  by_cases c : 0 ≤ v ∧ v ≤ 255
  · obtain ⟨w, rfl⟩ : ∃ w : Nat, v = (w : Int) := ⟨v.toNat, by omega⟩
    by_cases k : dN D < 140
    · refine Agree.yes (D' := ((dN D + 1, fun i => if i = dN D then (w : Int) else dT D i), D.2)) ⟨by show dN D + 1 ≤ 140; omega, fun i hi => ?_, hD.2.2⟩ (iz ((dN D + 1 : Nat) : Int)) (fun M hM => ?_) (fun M hM => ?_)
      · show 0 ≤ (if i = dN D then (w : Int) else dT D i) ∧ (if i = dN D then (w : Int) else dT D i) ≤ 255
        have hi : i < dN D + 1 := hi
        by_cases e : i = dN D
        · rw [if_pos e]; exact c
        · rw [if_neg e]; exact hD.2.1 i (by omega)
      · unfold f_X5_append
        rw [if_neg (by rw [l0]; omega), if_pos (by rw [l255]; omega), isF M hM.1.1, if_pos k, ob_some, if_pos rfl]
        unfold f_X4_add
        rw [isF M hM.1.1, if_pos k, ob_some, if_pos rfl, hM.1.1, if_pos (inb_n k (by omega)), cl_n (by omega), nar_char w (by omega)]
        have e1 : mw M 2 (dN D) (iz (w : Int)) 1 1 = iz (dN D) := by rw [mw_ne (by omega)]; exact hM.1.1
        have w1 : ∀ y, mw (mw M 2 (dN D) (iz (w : Int))) 1 1 y 1 1 = y := fun y => by rw [mw_at, if_pos rfl]
        rw [e1, a1z, w1, ob_some]
        have o : Off CI M (mw (mw M 2 (dN D) (iz (w : Int))) 1 1 (iz ((dN D + 1 : Nat) : Int))) := (Off.rf.put (by unfold CI; omega)).put (by unfold CI; omega)
        refine Tot.mk ⟨rfl, hM.text (w1 _) (fun i hi => ?_) (fun d x y => (mw_ne x).trans (mw_ne y)), o⟩
        dsimp only
        rw [mw_ne (by omega), mw_at]
        by_cases e : i = dN D
        · rw [if_pos e, if_pos e]
        · rw [if_neg e, if_neg e]; exact hM.1.2 i (by omega)
      · unfold f_X6_append
        rw [mi, ob_some, if_neg (by rw [bz_t c]; decide), hM.1.1, if_neg (by rw [eN]; omega)]
        unfold f_X6_append_b32
        rw [ref_yes]
        have q2 : mw M 27 0 0 27 2 = iz (dN D) := by rw [mw_at, if_neg (by omega)]; exact hM.1.1
        rw [q2, if_pos (inb_n k (by omega)), cl_n (by omega)]
        have q3 : mw (mw M 27 0 0) 28 (dN D) (iz (w : Int)) 27 2 = iz (dN D) := by rw [mw_ne (by omega)]; exact q2
        have w1 : ∀ y, mw (mw (mw M 27 0 0) 28 (dN D) (iz (w : Int))) 27 2 y 27 2 = y := fun y => by rw [mw_at, if_pos rfl]
        rw [q3, a1z, w1]
        have o : Off MI M (mw (mw (mw M 27 0 0) 28 (dN D) (iz (w : Int))) 27 2 (iz ((dN D + 1 : Nat) : Int))) := ((Off.rf.put (by unfold MI; omega)).put (by unfold MI; omega)).put (by unfold MI; omega)
        refine Tot.mk ⟨rfl, ?_, hM.text (w1 _) ?_ (fun i hi => ?_) (fun d x y => (mw_ne x).trans ((mw_ne y).trans (mw_ne x))), o⟩
        · show mw (mw (mw M 27 0 0) 28 (dN D) (iz (w : Int))) 27 2 (iz ((dN D + 1 : Nat) : Int)) 27 0 = 0
          rw [mw_at, if_neg (by omega), mw_ne (by omega), mw_at, if_pos rfl]
        · dsimp only
          rw [mw_at, if_neg (by omega), mw_ne (by omega), mw_at, if_neg (by omega)]
        · dsimp only
          rw [mw_ne (by omega), mw_at]
          by_cases e : i = dN D
          · rw [if_pos e, if_pos e]
          · rw [if_neg e, if_neg e, mw_ne (by omega)]; exact hM.1.2 i (by omega)
    · refine Agree.no hD 1 2 rfl (by omega) (fun M hM => ?_) (fun M hM => ?_)
      · unfold f_X5_append
        rw [if_neg (by rw [l0]; omega), if_pos (by rw [l255]; omega), isF M hM.1.1, if_neg k, ob_some, if_neg (by decide)]
      · unfold f_X6_append
        rw [mi, ob_some, if_neg (by rw [bz_t c]; decide), hM.1.1, if_pos (by rw [eN]; omega)]
        unfold f_X6_append_b32
        exact ⟨_, ref_no (n := 2) (by omega) (by omega) M _ _⟩
  · refine Agree.no hD 0 1 rfl (by omega) (fun M hM => ?_) (fun M hM => ?_)
    · unfold f_X5_append
      by_cases d : v < 0
      · rw [if_pos (by rw [l0]; exact d)]
      · rw [if_neg (by rw [l0]; exact d), if_neg (by rw [l255]; omega)]
    · unfold f_X6_append
      rw [mi, ob_some, if_pos (show bz (0 ≤ v ∧ v ≤ 255) = 0 from bz_f c)]
      unfold f_X6_append_b32
      exact ⟨_, ref_no (n := 1) (by omega) (by omega) M _ _⟩
/-- both answer alike, and nothing throws -/
def AgreeD (fc fm : Mem → Option (Int32 × Mem)) (D : Ds) : Prop :=
  ∃ (D' : Ds) (val : Int32), DOk D' ∧
    (∀ M, CRel M D → Tot (fc M) (fun x => x.1 = val ∧ CRel x.2 D' ∧ Off CI M x.2)) ∧
    ∀ M, MRel M D → Tot (fm M) (fun x => x.1 = val ∧ MRel x.2 D' ∧ Off MI M x.2)
theorem g_clear (D : Ds) (hD : DOk D) : AgreeD f_X5_clearText f_X6_clearText D := by
  refine ⟨((0, dT D), D.2), iz (dN D), ⟨by show 0 ≤ 140; omega, fun i hi => absurd hi (Nat.not_lt_zero i), hD.2.2⟩, fun M hM => ?_, fun M hM => ?_⟩
  · unfold f_X5_clearText f_X4_empty
    rw [ob_some, hM.1.1]
    have o : Off CI M (mw M 1 1 0) := Off.rf.put (by unfold CI; omega)
    refine Tot.mk ⟨rfl, hM.text ?_ (fun i hi => absurd hi (Nat.not_lt_zero i)) (fun d x y => mw_ne x), o⟩
    dsimp only
    rw [mw_at, if_pos rfl]; rfl
  · unfold f_X6_clearText
    have e : mw M 27 0 0 27 2 = iz (dN D) := by rw [mw_at, if_neg (by omega)]; exact hM.1.1
    rw [e]
    have o : Off MI M (mw (mw M 27 0 0) 27 2 0) := (Off.rf.put (by unfold MI; omega)).put (by unfold MI; omega)
    refine Tot.mk ⟨rfl, hM.text ?_ ?_ (fun i hi => absurd hi (Nat.not_lt_zero i)) (fun d x y => (mw_ne x).trans (mw_ne x)), o⟩
    · show mw (mw M 27 0 0) 27 2 0 27 2 = _
      rw [mw_at, if_pos rfl]; rfl
    · show mw (mw M 27 0 0) 27 2 0 27 9 = _
      rw [mw_at, if_neg (by omega), mw_at, if_neg (by omega)]
