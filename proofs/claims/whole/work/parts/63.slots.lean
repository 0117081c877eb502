theorem nar_b1 : vp_nar .boolean 1 = iz 1 := by decide
theorem nar_b0 : vp_nar .boolean 0 = iz 0 := by decide
def dSav (D : Ds) (s : Nat) : Ds := (D.1, D.2.1, D.2.2.1, (fun s' => if s' = s then true else dF D s', fun s' => if s' = s then dP D else dS D s'))
def dRes (D : Ds) (P : Pg) : Ds := (D.1, P, (0, dQ D), D.2.2.2)
theorem CRel.rest {M M' : Mem} {D : Ds} {P : Pg} (h : CRel M D) (hs : StRep M' 0 P) (e2 : M' 3 2 = iz 0) (e1 : M' 3 1 = M 3 1) (ne : ∀ d, (d < 44 ∨ 47 ≤ d) → d ≠ 3 → M' d = M d) : CRel M' (dRes D P) := by
  obtain ⟨⟨a1, a2⟩, b, ⟨nx, c1, c2, c3, c4⟩, d, e⟩ := h
  exact ⟨⟨by rw [ne 1 (by omega) (by omega)]; exact a1, fun i hi => by rw [ne 2 (by omega) (by omega)]; exact a2 i hi⟩, hs, ⟨nx, c1, e1.trans c2, e2, fun j hj => absurd hj (Nat.not_lt_zero j)⟩, fun s hs => ⟨by rw [ne 6 (by omega) (by omega)]; exact (d s hs).1, fun hf => ((d s hs).2 hf).same (fun d h1 h2 => ne d (by have := iSt_eq (2 + s); omega) (by have := iSt_eq (2 + s); omega))⟩, e.same (fun d h1 h2 => ne d (by omega) (by omega))⟩
theorem MRel.rest {M M' : Mem} {D : Ds} {P : Pg} (h : MRel M D) (hs : PR M' 30 0 P) (e2 : M' 27 9 = iz 0) (e1 : M' 27 2 = M 27 2) (ne : ∀ d, d ≠ 27 → d ≠ 30 → M' d = M d) : MRel M' (dRes D P) := by
  obtain ⟨⟨a1, a2⟩, b, ⟨c1, c2⟩, d⟩ := h
  exact ⟨⟨e1.trans a1, fun i hi => by rw [ne 28 (by omega) (by omega)]; exact a2 i hi⟩, hs, ⟨e2, fun j hj => absurd hj (Nat.not_lt_zero j)⟩, fun s hs => ⟨by rw [ne 35 (by omega) (by omega)]; exact (d s hs).1, fun hf => ((d s hs).2 hf).same (ne 34 (by omega) (by omega))⟩⟩
theorem reqSlot {M : Mem} {v : Int} (v1 : -2147483648 ≤ v) (v2 : v < 2147483648) : f_X5_requireSlot (iz v) M = if 0 ≤ v ∧ v < 2 then some (.ok (), M) else some (.error 2, M) := by
  unfold f_X5_requireSlot
  have e1 : (iz v < 0) = (v < 0) := by rw [show (0 : Int32) = iz 0 from rfl, iz_lt v1 v2 (by omega) (by omega)]
  have e2 : (iz v < 2) = (v < 2) := by rw [show (2 : Int32) = iz 2 from rfl, iz_lt v1 v2 (by omega) (by omega)]
  by_cases c : v < 0
  · rw [if_pos (by rw [e1]; exact c), if_neg (by omega)]
  · rw [if_neg (by rw [e1]; exact c)]
    by_cases d : v < 2
    · rw [if_pos (by rw [e2]; exact d), if_pos (by omega)]
    · rw [if_neg (by rw [e2]; exact d), if_neg (by omega)]
theorem dSav_Ok {D : Ds} (hD : DOk D) (s : Nat) : DOk (dSav D s) := by
  refine ⟨hD.1, hD.2.1, hD.2.2.1, hD.2.2.2.1, hD.2.2.2.2.1, fun s' hs hf => ?_⟩
  have hf : (if s' = s then true else dF D s') = true := hf
  show PgOk (if s' = s then dP D else dS D s')
  by_cases e : s' = s
  · rw [if_pos e]; exact hD.2.2.1
  · rw [if_neg e] at hf ⊢; exact hD.2.2.2.2.2 s' hs hf
theorem dRes_Ok {D : Ds} (hD : DOk D) {P : Pg} (hP : PgOk P) : DOk (dRes D P) := ⟨hD.1, hD.2.1, hP, Nat.zero_le _, fun j hj => absurd hj (Nat.not_lt_zero j), hD.2.2.2.2.2⟩
theorem g_save (D : Ds) (hD : DOk D) (x : Int32) : Agree h_L_save (f_X5_save x) (f_X6_save x) D := by
  obtain ⟨v, rfl, v1, v2⟩ := izself x
  have hP := hD.2.2.1
  have mi : ∀ M, f_X6_in (Int32.toInt64 (iz v)) 0 1 M = some (bz (0 ≤ v ∧ v ≤ 1), M) := fun M => by
    rw [show (0 : Int64) = Int32.toInt64 (iz 0) by decide, show (1 : Int64) = Int32.toInt64 (iz 1) by decide, in_eq M v1 v2 (by omega) (by omega) (by omega) (by omega)]
  by_cases c : 0 ≤ v ∧ v ≤ 1
  · obtain ⟨w, rfl⟩ : ∃ w : Nat, v = (w : Int) := ⟨v.toNat, by omega⟩
    have hw : w < 2 := by omega
    refine Agree.yes (D' := dSav D w) (dSav_Ok hD w) (iz (gB (dP D))) (fun M hM => ?_) (fun M hM => ?_)
    · unfold f_X5_save
      rw [reqSlot v1 v2, if_pos (by omega), oe_ok, if_pos (inb_n hw (by omega)), cl_n (n := w) (by omega)]
      refine Tot.ob ((take_rep (q := 2 + w) (r := 0) (by omega) hM.2.1 hP.1.1).mono ?_)
      intro ⟨_, M2⟩ ⟨hs, o⟩
      have hs : StRep M2 (2 + w) (dP D) := hs
      have o : Off (RSt (2 + w)) M M2 := o
      have iw := iSt_eq (2 + w)
      have i0 := iSt_eq 0
      have ne : ∀ d, (d < 50 ∨ 56 ≤ d ∨ ¬ (iSt (2 + w) ≤ d ∧ d < iSt (2 + w) + 3)) → d ≠ 6 → mw M2 6 w (vp_nar .boolean 1) d = M d := fun d hd h6 => (mw_ne h6).trans (o d (by unfold RSt; omega))
      have b2 : StRep (mw M2 6 w (vp_nar .boolean 1)) 0 (dP D) := hM.2.1.same (fun d x y => ne d (by omega) (by omega))
      rw [if_pos (inb_n hw (by omega)), b2.2.1]
      refine Tot.mk ⟨rfl, ?_, fun d hd => ne d (by unfold CI at hd; omega) (by unfold CI at hd; omega)⟩
      obtain ⟨⟨a1, a2⟩, b, ⟨nx, c1, c2, c3, c4⟩, dd, e⟩ := hM
      refine ⟨⟨by show mw M2 6 w (vp_nar .boolean 1) 1 1 = _; rw [ne 1 (by omega) (by omega)]; exact a1, fun i hi => by show mw M2 6 w (vp_nar .boolean 1) 2 i = _; rw [ne 2 (by omega) (by omega)]; exact a2 i hi⟩, b2, ⟨nx, c1, by show mw M2 6 w (vp_nar .boolean 1) 3 1 = _; rw [ne 3 (by omega) (by omega)]; exact c2, by show mw M2 6 w (vp_nar .boolean 1) 3 2 = _; rw [ne 3 (by omega) (by omega)]; exact c3, fun j hj => (c4 j hj).same (fun d x y => ne d (by have := iSt_eq (4 + (nx + 14 - dH D + j) % 14); omega) (by have := iSt_eq (4 + (nx + 14 - dH D + j) % 14); omega))⟩, fun s hs' => ⟨?_, fun hf => ?_⟩, e.same (fun d x y => ne d (by omega) (by omega))⟩
      · show mw M2 6 w (vp_nar .boolean 1) 6 s = iz (b01 (if s = w then true else dF D s))
        rw [mw_at]
        by_cases ew : s = w
        · rw [if_pos ew, if_pos ew, nar_b1]; rfl
        · rw [if_neg ew, if_neg ew, o 6 (by unfold RSt; omega)]; exact (dd s hs').1
      · have hf : (if s = w then true else dF D s) = true := hf
        show StRep (mw M2 6 w (vp_nar .boolean 1)) (2 + s) (if s = w then dP D else dS D s)
        by_cases ew : s = w
        · rw [if_pos ew, ew]; exact hs.same (fun d x y => mw_ne (by omega))
        · rw [if_neg ew] at hf ⊢
          exact ((dd s hs').2 hf).same (fun d x y => ne d (by have := iSt_eq (2 + s); omega) (by have := iSt_eq (2 + s); omega))
    · unfold f_X6_save
      rw [mi, ob_some, if_neg (by rw [bz_t c]; decide)]
      unfold f_X6_save_b16
      rw [ref_yes, if_pos (inb_n hw (by omega)), cl_n (n := w) (by omega), show (72 : Int32) * iz (w : Int) = iz ((72 * w : Nat) : Int) by rw [show (72 : Int32) = iz 72 from rfl, iz_mul]; rfl, show (0 : Int32) = iz ((0 : Nat) : Int) from rfl]
      refine Tot.ob ((copyPage_tot (r := 30) (q := 34) (a := 0) (c := 72 * w) (by show 0 + 72 ≤ 72; omega) (by show 72 * w + 72 ≤ 144; omega) (by decide) (by decide) (by omega)).mono ?_)
      intro ⟨_, M2⟩ ⟨k1, k2, k3⟩
      have k1 : ∀ k, k < 72 → M2 34 (72 * w + k) = mw (mw M 27 0 (iz ((0 : Nat) : Int))) 35 w (vp_nar .boolean 1) 30 (0 + k) := k1
      have k2 : ∀ j, (j < 72 * w ∨ 72 * w + 72 ≤ j) → M2 34 j = mw (mw M 27 0 (iz ((0 : Nat) : Int))) 35 w (vp_nar .boolean 1) 34 j := k2
      have k3 : Off (fun d => d = 34) (mw (mw M 27 0 (iz ((0 : Nat) : Int))) 35 w (vp_nar .boolean 1)) M2 := k3
      have ne : ∀ d, d ≠ 34 → d ≠ 35 → d ≠ 27 → M2 d = M d := fun d x y z => (k3 d x).trans ((mw_ne y).trans (mw_ne z))
      have h27 : ∀ j, j ≠ 0 → M2 27 j = M 27 j := fun j hj => by rw [k3 27 (by omega), mw_ne (by omega), mw_at, if_neg hj]
      have p30 : PR M2 30 0 (dP D) := hM.2.1.same (ne 30 (by omega) (by omega) (by omega))
      show Tot (if inb 7 72 then some (M2 30 (Int32.toNatClampNeg 7), M2) else none) _
      rw [if_pos (by decide), c7, p30.B]
      refine Tot.mk ⟨rfl, ?_, ?_, fun d hd => ne d (by unfold MI at hd; omega) (by unfold MI at hd; omega) (by unfold MI at hd; omega)⟩
      · show M2 27 0 = 0
        rw [k3 27 (by omega), mw_ne (by omega), mw_at, if_pos rfl]; rfl
      · obtain ⟨⟨a1, a2⟩, b, ⟨c1, c2⟩, dd⟩ := hM
        refine ⟨⟨(h27 2 (by omega)).trans a1, fun i hi => by show M2 28 i = _; rw [ne 28 (by omega) (by omega) (by omega)]; exact a2 i hi⟩, p30, ⟨(h27 9 (by omega)).trans c1, fun j hj => (c2 j hj).same (ne 33 (by omega) (by omega) (by omega))⟩, fun s hs' => ⟨?_, fun hf => ?_⟩⟩
        · show M2 35 s = iz (b01 (if s = w then true else dF D s))
          rw [k3 35 (by omega), mw_at]
          by_cases ew : s = w
          · rw [if_pos ew, if_pos ew, nar_b1]; rfl
          · rw [if_neg ew, if_neg ew, mw_ne (by omega)]; exact (dd s hs').1
        · have hf : (if s = w then true else dF D s) = true := hf
          show PR M2 34 (72 * s) (if s = w then dP D else dS D s)
          by_cases ew : s = w
          · rw [if_pos ew, ew]
            exact b.copy hP.1.1 (fun k hk => by rw [k1 k hk, mw_ne (by omega), mw_ne (by omega)])
          · rw [if_neg ew] at hf ⊢
            exact ((dd s hs').2 hf).copy (hD.2.2.2.2.2 s hs' hf).1.1 (fun k hk => by rw [k2 _ (by omega), mw_ne (by omega), mw_ne (by omega)])
  · refine Agree.no hD 2 1 rfl (by omega) (fun M hM => ?_) (fun M hM => ?_)
    · unfold f_X5_save
      rw [reqSlot v1 v2, if_neg (by omega), oe_er]
    · unfold f_X6_save
      rw [mi, ob_some, if_pos (show bz (0 ≤ v ∧ v ≤ 1) = 0 from bz_f c)]
      unfold f_X6_save_b16
      exact ⟨_, ref_no (n := 1) (by omega) (by omega) M _ _⟩
theorem g_restore (D : Ds) (hD : DOk D) (x : Int32) : Agree h_L_restore (f_X5_restore x) (f_X6_restore x) D := by
  obtain ⟨v, rfl, v1, v2⟩ := izself x
  have mi : ∀ M, f_X6_in (Int32.toInt64 (iz v)) 0 1 M = some (bz (0 ≤ v ∧ v ≤ 1), M) := fun M => by
    rw [show (0 : Int64) = Int32.toInt64 (iz 0) by decide, show (1 : Int64) = Int32.toInt64 (iz 1) by decide, in_eq M v1 v2 (by omega) (by omega) (by omega) (by omega)]
  by_cases c : 0 ≤ v ∧ v ≤ 1
  · obtain ⟨w, rfl⟩ : ∃ w : Nat, v = (w : Int) := ⟨v.toNat, by omega⟩
    have hw : w < 2 := by omega
    by_cases hf : dF D w = true
    · have hP := hD.2.2.2.2.2 w hw hf
      have b1 : iz (b01 (dF D w)) = 1 := by rw [hf]; rfl
      refine Agree.yes (D' := dRes D (dS D w)) (dRes_Ok hD hP) (iz (gB (dS D w))) (fun M hM => ?_) (fun M hM => ?_)
      · have hS := (hM.2.2.2.1 w hw).2 hf
        unfold f_X5_restore
        rw [reqSlot v1 v2, if_pos (by omega), oe_ok, if_pos (inb_n hw (by omega)), cl_n (n := w) (by omega), (hM.2.2.2.1 w hw).1, b1, if_neg (by decide), if_pos (inb_n hw (by omega))]
        refine Tot.ob ((take_rep (q := 0) (r := 2 + w) (by omega) hS hP.1.1).mono ?_)
        intro ⟨_, M2⟩ ⟨hs, o⟩
        have hs : StRep M2 0 (dS D w) := hs
        have o : Off (RSt 0) M M2 := o
        have i0 := iSt_eq 0
        unfold f_X1_forget
        have ne : ∀ d, (d < 44 ∨ 47 ≤ d) → d ≠ 3 → mw M2 3 2 0 d = M d := fun d hd h3 => (mw_ne h3).trans (o d (by unfold RSt; omega))
        have s2 : StRep (mw M2 3 2 0) 0 (dS D w) := hs.same (fun d x y => mw_ne (by omega))
        show Tot (some ((.ok (mw M2 3 2 0 (iSt 0) 3) : Except Nat Int32), mw M2 3 2 0)) _
        rw [s2.2.1]
        refine Tot.mk ⟨rfl, hM.rest s2 ?_ ?_ ne, fun d hd => ne d (by unfold CI at hd; omega) (by unfold CI at hd; omega)⟩
        · show mw M2 3 2 0 3 2 = _
          rw [mw_at, if_pos rfl]; rfl
        · show mw M2 3 2 0 3 1 = _
          rw [mw_at, if_neg (by omega), o 3 (by unfold RSt; omega)]
      · have hS := (hM.2.2.2 w hw).2 hf
        unfold f_X6_restore
        rw [mi, ob_some, if_neg (by rw [bz_t c]; decide), if_pos (inb_n hw (by omega)), cl_n (n := w) (by omega), (hM.2.2.2 w hw).1, b1, if_neg (by decide)]
        unfold f_X6_restore_b29
        rw [ref_yes, show (72 : Int32) * iz (w : Int) = iz ((72 * w : Nat) : Int) by rw [show (72 : Int32) = iz 72 from rfl, iz_mul]; rfl, show (0 : Int32) = iz ((0 : Nat) : Int) from rfl]
        refine Tot.ob ((copyPage_tot (r := 34) (q := 30) (a := 72 * w) (c := 0) (by show 72 * w + 72 ≤ 144; omega) (by show 0 + 72 ≤ 72; omega) (by decide) (by decide) (by omega)).mono ?_)
        intro ⟨_, M2⟩ ⟨k1, k2, k3⟩
        have k3 : Off (fun d => d = 30) (mw M 27 0 (iz ((0 : Nat) : Int))) M2 := k3
        have hp : PR M2 30 0 (dS D w) := hS.copy hP.1.1 (fun k hk => (k1 k hk).trans (by rw [mw_ne (by omega)]))
        have ne : ∀ d, d ≠ 27 → d ≠ 30 → mw M2 27 9 (iz ((0 : Nat) : Int)) d = M d := fun d x y => (mw_ne x).trans ((k3 d y).trans (mw_ne x))
        have hp2 : PR (mw M2 27 9 (iz ((0 : Nat) : Int))) 30 0 (dS D w) := hp.same (mw_ne (by omega))
        show Tot (if inb 7 72 then some (mw M2 27 9 (iz ((0 : Nat) : Int)) 30 (Int32.toNatClampNeg 7), mw M2 27 9 (iz ((0 : Nat) : Int))) else none) _
        rw [if_pos (by decide), c7, hp2.B]
        refine Tot.mk ⟨rfl, ?_, hM.rest hp2 ?_ ?_ ne, fun d hd => ne d (by unfold MI at hd; omega) (by unfold MI at hd; omega)⟩
        · show mw M2 27 9 (iz ((0 : Nat) : Int)) 27 0 = 0
          rw [mw_at, if_neg (by omega), k3 27 (by omega), mw_at, if_pos rfl]; rfl
        · show mw M2 27 9 (iz ((0 : Nat) : Int)) 27 9 = iz 0
          rw [mw_at, if_pos rfl]; rfl
        · show mw M2 27 9 (iz ((0 : Nat) : Int)) 27 2 = _
          rw [mw_at, if_neg (by omega), k3 27 (by omega), mw_at, if_neg (by omega)]
    · have b0 : iz (b01 (dF D w)) = 0 := by rw [show dF D w = false by simpa using hf]; rfl
      refine Agree.no hD 1 2 rfl (by omega) (fun M hM => ?_) (fun M hM => ?_)
      · unfold f_X5_restore
        rw [reqSlot v1 v2, if_pos (by omega), oe_ok, if_pos (inb_n hw (by omega)), cl_n (n := w) (by omega), (hM.2.2.2.1 w hw).1, b0, if_pos rfl]
      · unfold f_X6_restore
        rw [mi, ob_some, if_neg (by rw [bz_t c]; decide), if_pos (inb_n hw (by omega)), cl_n (n := w) (by omega), (hM.2.2.2 w hw).1, b0, if_pos rfl]
        unfold f_X6_restore_b29
        exact ⟨_, ref_no (n := 2) (by omega) (by omega) M _ _⟩
  · refine Agree.no hD 2 1 rfl (by omega) (fun M hM => ?_) (fun M hM => ?_)
    · unfold f_X5_restore
      rw [reqSlot v1 v2, if_neg (by omega), oe_er]
    · unfold f_X6_restore
      rw [mi, ob_some, if_pos (show bz (0 ≤ v ∧ v ≤ 1) = 0 from bz_f c)]
      unfold f_X6_restore_b29
      exact ⟨_, ref_no (n := 1) (by omega) (by omega) M _ _⟩
