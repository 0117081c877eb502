theorem CRel.rd {M M' : Mem} {D : Ds} (h : CRel M D) (e1 : M' 1 1 = M 1 1) (o : Off RT M M') : CRel M' D := by
  have i1 := iSt_eq 1
  have ne : ∀ d, d ≠ 1 → (d < 47 ∨ 50 ≤ d) → M' d = M d := fun d hd h2 => o d (by unfold RT RSt; omega)
  obtain ⟨⟨a1, a2⟩, b, ⟨nx, c1, c2, c3, c4⟩, d, e⟩ := h
  exact ⟨⟨e1.trans a1, fun i hi => by rw [ne 2 (by omega) (by omega)]; exact a2 i hi⟩, b.same (fun d x y => ne d (by have := iSt_eq 0; omega) (by have := iSt_eq 0; omega)), ⟨nx, c1, by rw [ne 3 (by omega) (by omega)]; exact c2, by rw [ne 3 (by omega) (by omega)]; exact c3, fun j hj => (c4 j hj).same (fun d x y => ne d (by have := iSt_eq (4 + (nx + 14 - dH D + j) % 14); omega) (by have := iSt_eq (4 + (nx + 14 - dH D + j) % 14); omega))⟩, fun s hs => ⟨by rw [ne 6 (by omega) (by omega)]; exact (d s hs).1, fun hf => ((d s hs).2 hf).same (fun d x y => ne d (by have := iSt_eq (2 + s); omega) (by have := iSt_eq (2 + s); omega))⟩, e.same (fun d x y => ne d (by omega) (by omega))⟩
theorem CI_RT (d : Nat) (h : RT d) : CI d := by
  unfold RT RSt at h
  have := iSt_eq 1
  unfold CI
  omega
theorem TOk_D {D : Ds} (hD : DOk D) : TOk D.1 := ⟨hD.1, hD.2.1⟩
theorem m_read {M : Mem} {D : Ds} (h : MRel M D) (hD : DOk D) : Tot (f_X6_readAll M) (fun x => x.1 = bz (rdE D.1 = -9) ∧ (¬ rdE D.1 = -9 → x.2 27 3 = iz (rdE D.1)) ∧ (rdE D.1 = -9 → PR x.2 29 0 (rdP D.1)) ∧ x.2 27 0 = M 27 0 ∧ MRel x.2 D ∧ Off MI M x.2) := by
  refine (readAll_tot (TOk_D hD) h.1.1 h.1.2).mono ?_
  intro x ⟨a, b, c, d, e⟩
  exact ⟨a, b, c, d 0 (by omega), h.gen (d 2 (by omega)) (d 9 (by omega)) (fun d hd => e d (by unfold RMd; omega)), e.wk (fun d hd => by unfold RMd at hd; unfold MI; omega)⟩
theorem g_error (D : Ds) (hD : DOk D) : AgreeD f_X5_errorPosition f_X6_errorPosition D := by
  refine ⟨D, iz (rdE D.1), hD, fun M hM => ?_, fun M hM => ?_⟩
  · unfold f_X5_errorPosition
    refine Tot.ob ((readInto_tot (TOk_D hD) hM.1.1 hM.1.2).mono ?_)
    intro ⟨x, M2⟩ ⟨a, b, c, d⟩
    exact Tot.mk ⟨a, hM.rd b c, c.wk CI_RT⟩
  · unfold f_X6_errorPosition
    have o0 : Off MI M (mw M 27 0 0) := Off.rf.put (by unfold MI; omega)
    refine Tot.ob ((m_read (hM.put (j := 0) (v := 0) (Or.inl rfl)) hD).mono ?_)
    intro ⟨x, M2⟩ ⟨a, b, c, _, d, e⟩
    have a : x = bz (rdE D.1 = -9) := a
    have b : ¬ rdE D.1 = -9 → M2 27 3 = iz (rdE D.1) := b
    have e : Off MI (mw M 27 0 0) M2 := e
    show Tot (if x = 0 then some (M2 27 3, M2) else some ((-9 : Int32), M2)) _
    rw [a]
    by_cases k : rdE D.1 = -9
    · rw [if_neg (by rw [bz_t k]; decide)]
      exact Tot.mk ⟨by rw [k]; rfl, d, o0.tr e⟩
    · rw [if_pos (show bz (rdE D.1 = -9) = 0 from bz_f k)]
      exact Tot.mk ⟨b k, d, o0.tr e⟩
def dLoad (D : Ds) : Ds := (D.1, rdP D.1, (0, dQ D), (fun _ => false, dS D))
theorem dLoad_Ok {D : Ds} (hD : DOk D) (h : rdE D.1 = -9) : DOk (dLoad D) :=
  ⟨hD.1, hD.2.1, rdP_Ok (rdE_hOk h), Nat.zero_le _, fun j hj => absurd hj (Nat.not_lt_zero j), fun s _ hf => absurd (show false = true from hf) (by decide)⟩
theorem g_load (D : Ds) (hD : DOk D) : Agree h_L_load f_X5_load f_X6_load D := by
  have i0 := iSt_eq 0
  have i1 := iSt_eq 1
  by_cases k : rdE D.1 = -9
  · have hP := rdP_Ok (rdE_hOk k)
    refine Agree.yes (D' := dLoad D) (dLoad_Ok hD k) (iz (gB (rdP D.1))) (fun M hM => ?_) (fun M hM => ?_)
    · unfold f_X5_load
      refine Tot.ob ((readInto_tot (TOk_D hD) hM.1.1 hM.1.2).mono ?_)
      intro ⟨x, M2⟩ ⟨a, b, c, d⟩
      have a : x = iz (rdE D.1) := a
      have b : M2 1 1 = M 1 1 := b
      have c : Off RT M M2 := c
      have d : StRep M2 1 (fSE M, (dig D.1 1).toNat, (hB D.1).toNat, (fin D.1).2.2) := d k
      dsimp only
      rw [a, k, if_pos (show iz (-9) = -9 from rfl)]
      refine Tot.ob ((resetSettings_tot 1 M2).mono ?_)
      intro ⟨_, M4⟩ ⟨a4, o4⟩
      have a4 : ∀ j, j < 6 → M4 (iSt 1 + 1) j = sa_first.getD j 0 := a4
      have o4 : Off (fun d => d = iSt 1 + 1) M2 M4 := o4
      have st : StRep M4 1 (rdP D.1) := ⟨by rw [o4 (iSt 1) (by omega)]; exact d.1, by rw [o4 (iSt 1) (by omega)]; exact d.2.1, fun j hj => by rw [a4 j hj]; exact fE_sa j hj, fun s b hs hb => by rw [o4 (iSt 1 + 2) (by omega)]; exact d.2.2.2 s b hs hb⟩
      refine Tot.ob ((take_rep (q := 0) (r := 1) (by omega) st hP.1.1).mono ?_)
      intro ⟨_, M6⟩ ⟨s6, o6⟩
      have s6 : StRep M6 0 (rdP D.1) := s6
      have o6 : Off (RSt 0) M4 M6 := o6
      unfold f_X1_forget
      rw [ob_some, show (0 : Int32) = iz ((0 : Nat) : Int) from rfl]
      have n6 : ∀ d, d ≠ 1 → (d < 44 ∨ 50 ≤ d) → M6 d = M d := fun d h1 h2 => (o6 d (by unfold RSt; omega)).trans ((o4 d (by omega)).trans (c d (by unfold RT RSt; omega)))
      have t6 : M6 1 1 = M 1 1 := by rw [o6 1 (by unfold RSt; omega), o4 1 (by omega)]; exact b
      have O6 : Off CI M M6 := fun d hd => by
        unfold CI at hd
        exact n6 d (by omega) (by omega)
      refine up_tot 2 (fun i M' => (∀ j, j < i → M' 6 j = iz 0) ∧ M' 3 2 = iz 0 ∧ M' 3 1 = M 3 1 ∧ ∀ d, d ≠ 6 → d ≠ 3 → M' d = M6 d) ?_ ?_ 9999 0 _ (by omega) ⟨fun j hj => absurd hj (Nat.not_lt_zero j), by rw [mw_at, if_pos rfl]; rfl, by rw [mw_at, if_neg (by omega)]; exact congrFun (n6 3 (by omega) (by omega)) 1, fun d _ h3 => mw_ne h3⟩ (by omega)
      · intro K i M' hi ⟨e1, e2, e3, e4⟩ hK
        unfold f_X5_load_b51
        rw [if_neg (by rw [show (2 : Int32) = iz ((2 : Nat) : Int) from rfl, lez (by omega) (by omega)]; omega), if_pos (inb_n hi (by omega)), cl_n (by omega), a1z]
        refine hK _ ⟨fun j hj => ?_, by rw [mw_ne (by omega)]; exact e2, by rw [mw_ne (by omega)]; exact e3, fun d h6 h3 => (mw_ne h6).trans (e4 d h6 h3)⟩
        rw [mw_at]
        by_cases e : j = i
        · rw [if_pos e, nar_b0]
        · rw [if_neg e]; exact e1 j (by omega)
      · intro K M' ⟨e1, e2, e3, e4⟩
        unfold f_X5_load_b51
        have s' : StRep M' 0 (rdP D.1) := s6.same (fun d x y => e4 d (by omega) (by omega))
        rw [if_pos (by decide), s'.2.1]
        obtain ⟨⟨a1, a2⟩, _, ⟨nx, c1, c2, c3, c4⟩, dd, e⟩ := hM
        refine Tot.mk ⟨rfl, ⟨⟨?_, fun i hi => ?_⟩, s', ⟨nx, c1, e3.trans c2, e2, fun j hj => absurd hj (Nat.not_lt_zero j)⟩, fun s hs => ⟨e1 s hs, fun hf => absurd (show false = true from hf) (by decide)⟩, e.same (fun d x y => (e4 d (by omega) (by omega)).trans (n6 d (by omega) (by omega)))⟩, fun d hd => (e4 d (by unfold CI at hd; omega) (by unfold CI at hd; omega)).trans (O6 d hd)⟩
        · show M' 1 1 = _
          rw [e4 1 (by omega) (by omega), t6]; exact a1
        · show M' 2 i = _
          rw [e4 2 (by omega) (by omega), n6 2 (by omega) (by omega)]; exact a2 i hi
    · unfold f_X6_load
      refine Tot.ob ((m_read hM hD).mono ?_)
      intro ⟨x, M2⟩ ⟨a, b, c, _, d, e⟩
      have a : x = bz (rdE D.1 = -9) := a
      have c : PR M2 29 0 (rdP D.1) := c k
      have d : MRel M2 D := d
      have e : Off MI M M2 := e
      dsimp only
      rw [a, if_neg (by rw [bz_t k]; decide)]
      unfold f_X6_load_b13
      rw [ref_yes, show (0 : Int32) = iz ((0 : Nat) : Int) from rfl]
      refine Tot.ob ((copyPage_tot (r := 29) (q := 30) (a := 0) (c := 0) (by show 0 + 72 ≤ 72; omega) (by show 0 + 72 ≤ 72; omega) (by decide) (by decide) (by omega)).mono ?_)
      intro ⟨_, M3⟩ ⟨k1, _, k3⟩
      have k3 : Off (fun d => d = 30) (mw M2 27 0 (iz ((0 : Nat) : Int))) M3 := k3
      have hp : PR M3 30 0 (rdP D.1) := c.copy hP.1.1 (fun k hk => (k1 k hk).trans (by rw [mw_ne (by omega)]))
      dsimp only
      rw [if_pos (by decide), if_pos (by decide), if_pos (by decide), c7]
      have v0 : Int32.toNatClampNeg (iz ((0 : Nat) : Int)) = 0 := by decide
      have v1 : Int32.toNatClampNeg 1 = 1 := by decide
      have vb : vp_nar .boolean (iz ((0 : Nat) : Int)) = iz 0 := by decide
      rw [v0, v1, vb]
      have ne : ∀ d, d ≠ 35 → d ≠ 27 → mw (mw (mw M3 27 9 (iz ((0 : Nat) : Int))) 35 0 (iz 0)) 35 1 (iz 0) d = M3 d := fun d x y => (mw_ne x).trans ((mw_ne x).trans (mw_ne y))
      have h27 : ∀ j, mw (mw (mw M3 27 9 (iz ((0 : Nat) : Int))) 35 0 (iz 0)) 35 1 (iz 0) 27 j = if j = 9 then iz ((0 : Nat) : Int) else if j = 0 then iz ((0 : Nat) : Int) else M2 27 j := fun j => by
        rw [mw_ne (by omega), mw_ne (by omega), mw_at]
        by_cases e : j = 9
        · rw [if_pos e, if_pos e]
        · rw [if_neg e, if_neg e, k3 27 (by omega), mw_at]
      have h35 : ∀ j, j < 2 → mw (mw (mw M3 27 9 (iz ((0 : Nat) : Int))) 35 0 (iz 0)) 35 1 (iz 0) 35 j = iz 0 := fun j hj => by
        rw [mw_at]
        by_cases e : j = 1
        · rw [if_pos e]
        · rw [if_neg e, mw_at, if_pos (by omega)]
      generalize mw (mw (mw M3 27 9 (iz ((0 : Nat) : Int))) 35 0 (iz 0)) 35 1 (iz 0) = M4 at ne h27 h35 ⊢
      have hp4 : PR M4 30 0 (rdP D.1) := hp.same (ne 30 (by omega) (by omega))
      have n2 : ∀ d, d ≠ 35 → d ≠ 27 → d ≠ 30 → M4 d = M2 d := fun d x y z => (ne d x y).trans ((k3 d z).trans (mw_ne y))
      rw [hp4.B]
      obtain ⟨⟨a1, a2⟩, _, ⟨cc1, cc2⟩, dd⟩ := d
      refine Tot.mk ⟨rfl, (h27 0).trans (by rw [if_neg (by omega), if_pos rfl]), ⟨⟨(h27 2).trans (by rw [if_neg (by omega), if_neg (by omega)]; exact a1), fun i hi => ?_⟩, hp4, ⟨(h27 9).trans (by rw [if_pos rfl]; rfl), fun j hj => absurd hj (Nat.not_lt_zero j)⟩, fun s hs => ⟨h35 s hs, fun hf => absurd (show false = true from hf) (by decide)⟩⟩, fun d hd => (n2 d (by unfold MI at hd; omega) (by unfold MI at hd; omega) (by unfold MI at hd; omega)).trans (e d hd)⟩
      show M4 28 i = _
      rw [n2 28 (by omega) (by omega) (by omega)]; exact a2 i hi
  · refine ⟨D, 1, 0, hD, fun M hM => ?_, fun M hM => ?_⟩
    · have hr : -9 ≤ rdE D.1 ∧ rdE D.1 ≤ 1000 := by
        unfold rdE
        by_cases k1 : sgn D.1 0 = 77
        · rw [if_neg (fun z => z k1)]
          by_cases k2 : 1 ≤ dig D.1 1 ∧ dig D.1 1 ≤ 4
          · rw [if_neg (fun z => z k2)]
            by_cases k3 : 0 ≤ dig D.1 2 ∧ dig D.1 2 ≤ 1
            · rw [if_neg (fun z => z k3)]
              by_cases k4 : 0 ≤ dig D.1 3 ∧ 1 ≤ hB D.1 ∧ hB D.1 ≤ 16
              · rw [if_neg (fun z => z k4)]
                have := fin_le (T := D.1) ⟨k1, k2, k3, k4⟩
                have : D.1.1 ≤ 140 := hD.1
                split <;> omega
              · rw [if_pos k4]; omega
            · rw [if_pos k3]; omega
          · rw [if_pos k2]; omega
        · rw [if_pos k1]; omega
      have e9 : ¬ (iz (rdE D.1) = -9) := by rw [show (-9 : Int32) = iz (-9) from rfl, iz_eq (by omega) (by omega) (by omega) (by omega)]; exact k
      obtain ⟨⟨x, M2⟩, hx, a, b, c, d⟩ := readInto_tot (TOk_D hD) hM.1.1 hM.1.2
      have a : x = iz (rdE D.1) := a
      have c : Off RT M M2 := c
      have hw : wrp h_L_load (f_X5_load M) = some (1, M2) := by
        unfold f_X5_load
        rw [hx, ob_some, a, if_neg e9]
        rfl
      rw [hw]
      exact Tot.mk ⟨rfl, fun z => absurd z (by decide), hM.rd b c, c.wk (fun d hd => Or.inl (CI_RT d hd))⟩
    · unfold f_X6_load
      refine Tot.ob ((m_read hM hD).mono ?_)
      intro ⟨x, M2⟩ ⟨a, b, c, _, d, e⟩
      have a : x = bz (rdE D.1 = -9) := a
      have d : MRel M2 D := d
      have e : Off MI M M2 := e
      dsimp only
      rw [a, if_pos (show bz (rdE D.1 = -9) = 0 from bz_f k)]
      unfold f_X6_load_b13
      have rn := ref_no (n := 1) (by omega) (by omega) M2 (fun M4 => ob (f_X6_copyPage 29 0 30 0 M4) (fun x5 M6 => if inb 0 2 then (if inb 1 2 then (if inb 7 72 then (some ((mw (mw (mw M6 27 9 0) 35 (Int32.toNatClampNeg 0) (vp_nar .boolean 0)) 35 (Int32.toNatClampNeg 1) (vp_nar .boolean 0)) 30 (Int32.toNatClampNeg 7), (mw (mw (mw M6 27 9 0) 35 (Int32.toNatClampNeg 0) (vp_nar .boolean 0)) 35 (Int32.toNatClampNeg 1) (vp_nar .boolean 0)))) else none) else none) else none)) (fun M4 => some ((0 : Int32), M4))
      refine Tot.of rn ⟨fun z => absurd z (by decide), ?_, d.put (Or.inl rfl), ?_⟩
      · show mw M2 27 0 (iz ((1 : Nat) : Int)) 27 0 = 1
        rw [mw_at, if_pos rfl]; rfl
      · have o : Off MI M (mw M2 27 0 (iz ((1 : Nat) : Int))) := e.put (by unfold MI; omega)
        exact o
