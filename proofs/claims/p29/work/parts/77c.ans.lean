theorem k_whatIf (D : Ds) (hD : DOk D) {x0 : Int32} {a : Int} (hx0 : x0 = iz a) (a1 : -2147483648 ≤ a) (a2 : a < 2147483648) {y0 : Int32} {v : Int} (hy0 : y0 = iz v) (v1 : -2147483648 ≤ v) (v2 : v < 2147483648) {u0 : Int32} {w : Int} (hu0 : u0 = iz w) (w1 : -2147483648 ≤ w) (w2 : w < 2147483648) : Cl (f_X5_whatIf x0 y0 u0) D (if setOk a v then (if 0 ≤ w ∧ w ≤ 7 then (.ok (iz (nWhole (pset (dP D) a.toNat v) w.toNat)), D) else (.error 0, D)) else (.error 0, D)) := by
  subst hx0 hy0 hu0
  have hP := hD.2.2.1
  have up : ∀ M, f_X5_requireUpTo 7 (iz w) M = if 0 ≤ w ∧ w ≤ (7 : Nat) then some (.ok (), M) else some (.error 0, M) := fun M => reqUpTo (n := 7) (by omega) w1 w2
  by_cases c : setOk a v
  · rw [if_pos c]
    by_cases d : 0 ≤ w ∧ w ≤ 7
    · rw [if_pos d]
      obtain ⟨j, rfl, hj⟩ : ∃ j : Nat, a = (j : Int) ∧ j < 6 := ⟨a.toNat, by omega, by omega⟩
      try simp only [Int.toNat_natCast]
      obtain ⟨u, rfl⟩ : ∃ u : Nat, w = (u : Int) := ⟨w.toNat, by omega⟩
      try simp only [Int.toNat_natCast]
      have hu : u < 8 := by omega
      have hp := pset_Ok hP c
      refine Cl.yes (D' := D) hD (iz (nWhole (pset (dP D) j v) u)) (fun M hM => ?_)
      · unfold f_X5_whatIf
        rw [allowsSetting_eq a1 a2 v1 v2, ob_some, if_neg (by rw [bz_t c]; decide), up, if_pos (by omega), oe_ok]
        refine Tot.ob ((c_take hM hD).mono ?_)
        intro ⟨_, M2⟩ ⟨s2, h2, o2⟩
        have s2 : StRep M2 1 (dP D) := s2
        have h2 : CRel M2 D := h2
        have o2 : Off CT M M2 := o2
        dsimp only
        rw [changeSetting_eq hj, ob_some]
        have o3 : Off (RSt 1) M2 (mw M2 (iSt 1 + 1) j (iz v)) := Off.rf.put ⟨by omega, by omega⟩
        refine Tot.ob ((c_num (h2.tri o3) (st_set s2 j v) hp.1 hu).mono ?_)
        intro ⟨y, M4⟩ ⟨b1, _, b3, b4⟩
        exact Tot.mk ⟨congrArg _ b1, b3, ((o2.tr (o3.wk (fun d hd => Or.inl hd))).tr b4).wk CI_CT⟩
    · rw [if_neg d]
      refine Cl.no hD 0 (fun M hM => ?_)
      · unfold f_X5_whatIf
        rw [allowsSetting_eq a1 a2 v1 v2, ob_some, if_neg (by rw [bz_t c]; decide), up, if_neg (by omega), oe_er]
  · rw [if_neg c]
    refine Cl.no hD 0 (fun M hM => ?_)
    · unfold f_X5_whatIf
      rw [allowsSetting_eq a1 a2 v1 v2, ob_some, if_pos (show bz (setOk a v) = 0 from bz_f c)]
theorem k_smallest (D : Ds) (hD : DOk D) : ClD f_X5_smallestSpan D (iz (spS (dP D) 24), D) := by
  have hP := hD.2.2.1
  have i1 := iSt_eq 1
  refine ⟨hD, fun M hM => ?_⟩
  · unfold f_X5_smallestSpan
    refine Tot.ob ((c_take hM hD).mono ?_)
    intro ⟨_, M2⟩ ⟨s2, h2, o2⟩
    have s2 : StRep M2 1 (dP D) := s2
    have h2 : CRel M2 D := h2
    have o2 : Off CT M M2 := o2
    rw [show (1 : Int32) = iz ((1 : Nat) : Int) from rfl]
    refine up_tot 25 (fun i M' => 1 ≤ i ∧ spS (dP D) 24 = spS (dP D) (25 - i) ∧ CRel M' D ∧ Off CT M M' ∧ ∃ E : Nat → Int, (∀ j, 2 ≤ j → E j = gE (dP D) j) ∧ StRep M' 1 (E, (dP D).2)) ?_ ?_ 9999 1 M2 (by omega) ⟨by omega, rfl, h2, o2, gE (dP D), fun _ _ => rfl, s2⟩ (by omega)
    · intro K i M' hi ⟨h1, e1, hc, ho, E, hE, hs⟩ hK
      unfold f_X5_smallestSpan_b13
      rw [if_neg (by rw [show (24 : Int32) = iz ((24 : Nat) : Int) from rfl, ltz (by omega) (by omega)]; omega), show (0 : Int32) = iz ((0 : Nat) : Int) from rfl]
      refine up_tot 2 (fun m M'' => CRel M'' D ∧ Off CT M M'' ∧ ∃ E : Nat → Int, (∀ j, 2 ≤ j → E j = gE (dP D) j) ∧ (∀ j, j < m → E j = i) ∧ StRep M'' 1 (E, (dP D).2)) ?_ ?_ 9999 0 M' (by omega) ⟨hc, ho, E, hE, fun j hj => absurd hj (Nat.not_lt_zero j), hs⟩ (by omega)
      · intro K2 m M3 hm ⟨hc3, ho3, E3, hE3, hm3, hs3⟩ hK2
        unfold f_X5_smallestSpan_b21
        rw [if_neg (by rw [show (2 : Int32) = iz ((2 : Nat) : Int) from rfl, lez (by omega) (by omega)]; omega), changeSetting_eq (by omega), ob_some, a1z]
        have o3 : Off (RSt 1) M3 (mw M3 (iSt 1 + 1) m (iz (i : Int))) := Off.rf.put ⟨by omega, by omega⟩
        refine hK2 _ ⟨hc3.tri o3, ho3.tr (o3.wk (fun d hd => Or.inl hd)), fun j' => if j' = m then (i : Int) else E3 j', fun j hj => ?_, fun j hj => ?_, st_set hs3 m i⟩
        · show (if j = m then (i : Int) else E3 j) = _
          rw [if_neg (by omega)]; exact hE3 j hj
        · show (if j = m then (i : Int) else E3 j) = _
          by_cases e : j = m
          · rw [if_pos e]
          · rw [if_neg e]; exact hm3 j (by omega)
      · intro K2 M3 ⟨hc3, ho3, E3, hE3, hm3, hs3⟩
        unfold f_X5_smallestSpan_b21 f_X5_smallestSpan_b41
        rw [if_pos (by decide), show (3 : Int32) = iz ((3 : Nat) : Int) from rfl]
        have st : StRep M3 1 (spn (dP D) i) := hs3.to rfl rfl (fun j hj => by
          show (if j = 1 then (i : Int) else if j = 0 then (i : Int) else gE (dP D) j) = E3 j
          by_cases j1 : j = 1
          · rw [if_pos j1]; exact (hm3 j (by omega)).symm
          · rw [if_neg j1]
            by_cases j0 : j = 0
            · rw [if_pos j0]; exact (hm3 j (by omega)).symm
            · rw [if_neg j0]; exact (hE3 j (by omega)).symm) (fun _ _ _ _ => rfl)
        refine Tot.ob ((c_num hc3 st (spn_Ok hP (by omega) (by omega)).1 (by omega)).mono ?_)
        intro ⟨y, M4⟩ ⟨b1, b2, b3, b4⟩
        have b1 : y = iz (nWhole (spn (dP D) i) 3) := b1
        have b2 : StRep M4 1 (spn (dP D) i) := b2
        have es := spS_at (dP D) h1 hi
        rw [← b1] at es
        show Tot (if y = 0 then some (iz (i : Int), M4) else K (iz (i : Int) + 1) M4) _
        by_cases z : y = 0
        · rw [if_pos z] at es ⊢
          exact Tot.mk ⟨by rw [e1, es], b3, (ho3.tr b4).wk CI_CT⟩
        · rw [if_neg z] at es ⊢
          rw [a1z]
          refine hK _ ⟨by omega, e1.trans es, b3, ho3.tr b4, gE (spn (dP D) i), fun j hj => ?_, b2⟩
          show (if j = 1 then (i : Int) else if j = 0 then (i : Int) else gE (dP D) j) = _
          rw [if_neg (by omega), if_neg (by omega)]
    · intro K M' ⟨h1, e1, hc, ho, _⟩
      unfold f_X5_smallestSpan_b13
      rw [if_pos (by decide)]
      exact Tot.mk ⟨by rw [e1]; rfl, hc, ho.wk CI_CT⟩
theorem k_dearest (D : Ds) (hD : DOk D) : ClD f_X5_dearest D (iz (dea (dP D) (gS (dP D) - 1)).1, D) := by
  have hP := hD.2.2.1
  have hS := hP.1.1.1
  have i1 := iSt_eq 1
  refine ⟨hD, fun M hM => ?_⟩
  · unfold f_X5_dearest
    have e0 : ∀ x : Int32 × Int32, True := fun _ => trivial
    show Tot (lq3 f_X5_dearest_b7 9999 0 1000000 (iz ((0 : Nat) : Int)) M) _
    refine up3_tot (gS (dP D)) (fun i v1 v2 M' => CRel M' D ∧ Off CT M M' ∧ (i = 0 → v2 = 1000000) ∧ (0 < i → v1 = iz (dea (dP D) (i - 1)).1 ∧ v2 = iz (dea (dP D) (i - 1)).2)) ?_ ?_ 9999 0 _ _ M (by omega) ⟨hM, Off.rf, fun _ => rfl, fun z => absurd z (Nat.not_lt_zero _)⟩ (by omega)
    · intro K i v1 v2 M' hi ⟨hc, ho, hz, hp⟩ hK
      unfold f_X5_dearest_b7
      rw [hc.2.1.1, if_neg (by rw [lez (by omega) (by omega)]; omega)]
      refine Tot.ob ((c_take hc hD).mono ?_)
      intro ⟨_, M2⟩ ⟨s2, h2, o2⟩
      have s2 : StRep M2 1 (dP D) := s2
      have h2 : CRel M2 D := h2
      have o2 : Off CT M' M2 := o2
      refine Tot.ob ((silenceStaff_tot s2 hP.1.1 hi).mono ?_)
      intro ⟨_, M3⟩ ⟨s3, o3⟩
      have s3 : StRep M3 1 (psil (dP D) i) := s3
      have o3 : Off (RSt 1) M2 M3 := o3
      refine Tot.ob ((c_num (w := 0) (h2.tri o3) s3 (psil_Ok hP i).1 (by omega)).mono ?_)
      intro ⟨y, M4⟩ ⟨b1, b2, b3, b4⟩
      have b1 : y = iz (nWhole (psil (dP D) i) 0) := b1
      have b4 : Off CT M3 M4 := b4
      have oo : Off CT M M4 := ((ho.tr o2).tr (o3.wk (fun d hd => Or.inl hd))).tr b4
      have hr := nWhole0_rng (psil_Ok hP i).1
      show Tot (if v2 ≤ y then K v1 v2 (iz (i : Int) + 1) M4 else K (iz (i : Int)) y (iz (i : Int) + 1) M4) _
      rw [a1z]
      by_cases z : i = 0
      · subst z
        rw [hz rfl, b1, if_neg (by rw [show (1000000 : Int32) = iz 1000000 from rfl, iz_le (by omega) (by omega) (by omega) (by omega)]; omega)]
        exact hK _ _ _ ⟨b3, oo, fun z => absurd z (by omega), fun _ => ⟨rfl, rfl⟩⟩
      · obtain ⟨q1, q2⟩ := hp (by omega)
        have dr := dea_rng hP (i - 1)
        have ed : dea (dP D) i = if nWhole (psil (dP D) i) 0 < (dea (dP D) (i - 1)).2 then ((i : Int), nWhole (psil (dP D) i) 0) else dea (dP D) (i - 1) := by
          obtain ⟨n, rfl⟩ : ∃ n, i = n + 1 := ⟨i - 1, by omega⟩
          rfl
        rw [q1, q2, b1]
        by_cases c : nWhole (psil (dP D) i) 0 < (dea (dP D) (i - 1)).2
        · rw [if_neg (by rw [iz_le (by omega) (by omega) (by omega) (by omega)]; omega)]
          refine hK _ _ _ ⟨b3, oo, fun z => absurd z (by omega), fun _ => ?_⟩
          rw [show i + 1 - 1 = i by omega, ed, if_pos c]
          exact ⟨rfl, rfl⟩
        · rw [if_pos (by rw [iz_le (by omega) (by omega) (by omega) (by omega)]; omega)]
          refine hK _ _ _ ⟨b3, oo, fun z => absurd z (by omega), fun _ => ?_⟩
          rw [show i + 1 - 1 = i by omega, ed, if_neg c]
          exact ⟨rfl, rfl⟩
    · intro K v1 v2 M' ⟨hc, ho, _, hp⟩
      unfold f_X5_dearest_b7
      rw [hc.2.1.1, if_pos (Int32.le_refl _)]
      exact Tot.mk ⟨(hp (by omega)).1, hc, ho.wk CI_CT⟩
theorem k_best (D : Ds) (hD : DOk D) {x0 : Int32} {s : Int} (hx0 : x0 = iz s) (s1 : -2147483648 ≤ s) (s2 : s < 2147483648) : Cl (f_X5_bestTransposition x0) D (if 0 ≤ s ∧ s < gS (dP D) then (.ok (iz (bt (dP D) s.toNat 120).1), D) else (.error 2, D)) := by
  subst hx0
  have hP := hD.2.2.1
  have hS := hP.1.1.1
  by_cases c : 0 ≤ s ∧ s < gS (dP D)
  · rw [if_pos c]
    obtain ⟨t, rfl⟩ : ∃ t : Nat, s = (t : Int) := ⟨s.toNat, by omega⟩
    try simp only [Int.toNat_natCast]
    have ht : t < gS (dP D) := by omega
    refine Cl.yes (D' := D) hD (iz (bt (dP D) t 120).1) (fun M hM => ?_)
    · unfold f_X5_bestTransposition
      rw [reqStaff hM hD s1 s2, if_pos c, oe_ok]
      show Tot (lq3 (f_X5_bestTransposition_b13 (iz (t : Int))) 9999 0 1000000 (iz ((0 : Nat) : Int)) M) _
      refine up3_tot 121 (fun i v1 v2 M' => CRel M' D ∧ Off CT M M' ∧ (i = 0 → v1 = 0 ∧ v2 = 1000000) ∧ (0 < i → v1 = iz (bt (dP D) t (i - 1)).1 ∧ v2 = iz (bt (dP D) t (i - 1)).2)) ?_ ?_ 9999 0 _ _ M (by omega) ⟨hM, Off.rf, fun _ => ⟨rfl, rfl⟩, fun z => absurd z (Nat.not_lt_zero _)⟩ (by omega)
      · intro K i v1 v2 M' hi ⟨hc, ho, hz, hp⟩ hK
        unfold f_X5_bestTransposition_b13
        have hr := byI_rng (i := i) (by omega)
        have l120 : ¬ ((120 : Int32) < iz (i : Int)) := by rw [show (120 : Int32) = iz ((120 : Nat) : Int) from rfl, ltz (by omega) (by omega)]; omega
        rw [if_neg l120]
        have b42 : Tot (f_X5_bestTransposition_b42 (iz (t : Int)) v1 v2 (iz (i : Int)) K (iz (byI i)) M') (fun x => x.1 = .ok (iz (bt (dP D) t 120).1) ∧ CRel x.2 D ∧ Off CI M x.2) := by
          unfold f_X5_bestTransposition_b42
          rw [allowsMoving_eq hc.2.1 hP.1 ht hr.1 hr.2, ob_some, a1z]
          by_cases cm : canMv (dP D) t (byI i)
          · rw [if_neg (by rw [bz_t cm]; decide)]
            refine Tot.ob ((c_take hc hD).mono ?_)
            intro ⟨_, M2⟩ ⟨s2, h2, o2⟩
            have s2 : StRep M2 1 (dP D) := s2
            have h2 : CRel M2 D := h2
            have o2 : Off CT M' M2 := o2
            refine Tot.ob ((moveStaff_tot s2 hP.1 ht hr.1 hr.2 cm).mono ?_)
            intro ⟨_, M3⟩ ⟨_, s3, o3⟩
            have s3 : StRep M3 1 (pmov (dP D) t (byI i)) := s3
            have o3 : Off (RSt 1) M2 M3 := o3
            have hq := pmov_Ok hP cm
            refine Tot.ob ((c_num (w := 0) (h2.tri o3) s3 hq.1 (by omega)).mono ?_)
            intro ⟨y, M4⟩ ⟨b1, b2, b3, b4⟩
            have b1 : y = iz (nWhole (pmov (dP D) t (byI i)) 0) := b1
            have b4 : Off CT M3 M4 := b4
            have oo : Off CT M M4 := ((ho.tr o2).tr (o3.wk (fun d hd => Or.inl hd))).tr b4
            have hw := nWhole0_rng hq.1
            show Tot (if v2 ≤ y then K v1 v2 (iz ((i + 1 : Nat) : Int)) M4 else K (iz (byI i)) y (iz ((i + 1 : Nat) : Int)) M4) _
            by_cases z : i = 0
            · subst z
              rw [(hz rfl).2, b1, if_neg (by rw [show (1000000 : Int32) = iz 1000000 from rfl, iz_le (by omega) (by omega) (by omega) (by omega)]; omega)]
              refine hK _ _ _ ⟨b3, oo, fun z => absurd z (by omega), fun _ => ⟨rfl, ?_⟩⟩
              show iz (nWhole (pmov (dP D) t 0) 0) = iz (nWhole (dP D) 0)
              rw [pmov0]
            · obtain ⟨q1, q2⟩ := hp (by omega)
              have br := bt_rng hP t (i - 1)
              have ed : bt (dP D) t i = btS (dP D) t (byI i) (bt (dP D) t (i - 1)) := by
                obtain ⟨n, rfl⟩ : ∃ n, i = n + 1 := ⟨i - 1, by omega⟩
                try simp only [Int.toNat_natCast]
                rfl
              unfold btS at ed
              rw [if_pos cm] at ed
              rw [q1, q2, b1]
              by_cases k : nWhole (pmov (dP D) t (byI i)) 0 < (bt (dP D) t (i - 1)).2
              · rw [if_neg (by rw [iz_le (by omega) (by omega) (by omega) (by omega)]; omega)]
                refine hK _ _ _ ⟨b3, oo, fun z => absurd z (by omega), fun _ => ?_⟩
                rw [show i + 1 - 1 = i by omega, ed, if_pos k]
                exact ⟨rfl, rfl⟩
              · rw [if_pos (by rw [iz_le (by omega) (by omega) (by omega) (by omega)]; omega)]
                refine hK _ _ _ ⟨b3, oo, fun z => absurd z (by omega), fun _ => ?_⟩
                rw [show i + 1 - 1 = i by omega, ed, if_neg k]
                exact ⟨rfl, rfl⟩
          · rw [if_pos (show bz (canMv (dP D) t (byI i)) = 0 from bz_f cm)]
            have i0 : i ≠ 0 := fun z => cm (by rw [z]; intro b hb hq; show pit (gC (dP D) t b + 0); rw [Int.add_zero]; exact hq)
            obtain ⟨q1, q2⟩ := hp (by omega)
            have ed : bt (dP D) t i = btS (dP D) t (byI i) (bt (dP D) t (i - 1)) := by
              obtain ⟨n, rfl⟩ : ∃ n, i = n + 1 := ⟨i - 1, by omega⟩
              try simp only [Int.toNat_natCast]
              rfl
            unfold btS at ed
            rw [if_neg cm] at ed
            refine hK _ _ _ ⟨hc, ho, fun z => absurd z (by omega), fun _ => ?_⟩
            rw [show i + 1 - 1 = i by omega, ed]
            exact ⟨q1, q2⟩
        have e2 : iz (i : Int) / 2 = iz ((i / 2 : Nat) : Int) := by rw [show (2 : Int32) = iz 2 from rfl, iz_div (by omega) (by omega) (by omega) (by omega)]; rfl
        have em : iz (i : Int) - iz (i : Int) / 2 * 2 = iz ((i % 2 : Nat) : Int) := by
          rw [e2, show (2 : Int32) = iz 2 from rfl, iz_mul, iz_sub]
          congr 1
          omega
        have e1 : (iz ((i % 2 : Nat) : Int) = 1) = (i % 2 = 1) := by
          rw [show (1 : Int32) = iz 1 from rfl, iz_eq (by omega) (by omega) (by omega) (by omega)]
          exact propext ⟨fun h => by omega, fun h => by omega⟩
        have e12 : iz ((i + 1 : Nat) : Int) / 2 = iz (((i + 1) / 2 : Nat) : Int) := by rw [show (2 : Int32) = iz 2 from rfl, iz_div (by omega) (by omega) (by omega) (by omega)]; rfl
        rw [em, a1z, e12, e2, iz_neg]
        by_cases k : i % 2 = 1
        · rw [if_pos (by rw [e1]; exact k)]
          have : byI i = (((i + 1) / 2 : Nat) : Int) := by unfold byI; rw [if_pos k]
          rw [← this]; exact b42
        · rw [if_neg (by rw [e1]; exact k)]
          have : byI i = -((i / 2 : Nat) : Int) := by unfold byI; rw [if_neg k]
          rw [← this]; exact b42
      · intro K v1 v2 M' ⟨hc, ho, _, hp⟩
        unfold f_X5_bestTransposition_b13
        rw [if_pos (by decide)]
        exact Tot.mk ⟨congrArg _ (hp (by omega)).1, hc, ho.wk CI_CT⟩
  · rw [if_neg c]
    refine Cl.no hD 2 (fun M hM => ?_)
    · unfold f_X5_bestTransposition
      rw [reqStaff hM hD s1 s2, if_neg c, oe_er]
theorem k_simulate (D : Ds) (hD : DOk D) (w : Int64) {x0 : Int32} {v : Int} (hx0 : x0 = iz v) (v1 : -2147483648 ≤ v) (v2 : v < 2147483648) : Cl (f_X5_simulate w x0) D (if 1 ≤ v ∧ v ≤ 40 then (.ok (iz (nWhole (simS (dP D) w v.toNat).2 0 + 1000 * ((nWhole (simS (dP D) w v.toNat).2 1 + nWhole (simS (dP D) w v.toNat).2 2) + nWhole (simS (dP D) w v.toNat).2 3))), D) else (.error 0, D)) := by
  subst hx0
  have hP := hD.2.2.1
  have l1 : (iz v < 1) = (v < 1) := by rw [show (1 : Int32) = iz 1 from rfl, iz_lt v1 v2 (by omega) (by omega)]
  have l40 : (iz v ≤ 40) = (v ≤ 40) := by rw [show (40 : Int32) = iz 40 from rfl, iz_le v1 v2 (by omega) (by omega)]
  by_cases c : 1 ≤ v ∧ v ≤ 40
  · rw [if_pos c]
    obtain ⟨m, rfl⟩ : ∃ m : Nat, v = (m : Int) := ⟨v.toNat, by omega⟩
    try simp only [Int.toNat_natCast]
    have hm : m ≤ 40 := by omega
    have hF := simS_Ok hP w m
    refine Cl.yes (D' := D) hD (iz (nWhole (simS (dP D) w m).2 0 + 1000 * ((nWhole (simS (dP D) w m).2 1 + nWhole (simS (dP D) w m).2 2) + nWhole (simS (dP D) w m).2 3))) (fun M hM => ?_)
    · unfold f_X5_simulate
      rw [if_neg (by rw [l1]; omega), if_pos (by rw [l40]; omega)]
      refine Tot.ob ((c_take hM hD).mono ?_)
      intro ⟨_, M2⟩ ⟨s2, h2, o2⟩
      have s2 : StRep M2 1 (dP D) := s2
      have h2 : CRel M2 D := h2
      have o2 : Off CT M M2 := o2
      rw [show (0 : Int32) = iz ((0 : Nat) : Int) from rfl]
      refine up2_tot m (fun i x M' => x = (simS (dP D) w i).1 ∧ StRep M' 1 (simS (dP D) w i).2 ∧ CRel M' D ∧ Off CT M M') ?_ ?_ 9999 0 w M2 (by omega) ⟨rfl, s2, h2, o2⟩ (by omega)
      · intro K i x M' hi ⟨e1, hs, hc, ho⟩ hK
        unfold f_X5_simulate_b36
        have r := r33_nat ((simS (dP D) w i).1 * 6364136223846793005 + 1442695040888963407)
        unfold r33 at r
        rw [if_neg (by rw [lez (by omega) (by omega)]; omega), e1, r.1]
        refine Tot.ob ((c_round r.2 hc hs (simS_Ok hP w i)).mono ?_)
        intro ⟨_, M3⟩ ⟨a, b, o⟩
        have o : Off CT M' M3 := o
        dsimp only
        rw [a1z]
        exact hK _ _ ⟨rfl, a, b, ho.tr o⟩
      · intro K x M' ⟨_, hs, hc, ho⟩
        unfold f_X5_simulate_b36 f_X5_simulate_b70
        generalize (simS (dP D) w m).2 = Q at hF hs
        rw [if_pos (Int32.le_refl _)]
        refine Tot.ob ((c_trial hc hs hF.1).mono ?_)
        intro ⟨_, M3⟩ ⟨rd, _, b, o⟩
        have rd : RD M3 Q := rd
        have b : CRel M3 D := b
        have o : Off CT M' M3 := o
        show Tot (lq2 f_X5_simulate_b87 9999 0 (iz ((1 : Nat) : Int)) M3) _
        refine up2_tot 4 (fun r v M' => M' = M3 ∧ 1 ≤ r ∧ v = iz (sg (fun r => nWhole Q (r + 1)) (r - 1))) ?_ ?_ 9999 1 0 M3 (by omega) ⟨rfl, by omega, rfl⟩ (by omega)
        · intro K r v M4 hr ⟨e1, e2, e3⟩ hK
          subst e1
          unfold f_X5_simulate_b87
          rw [if_neg (by rw [show (3 : Int32) = iz ((3 : Nat) : Int) from rfl, ltz (by omega) (by omega)]; omega), numberOfWhole_eq rd hF.1 (by omega), ob_some, a1z, e3, iz_add]
          refine hK _ _ ⟨rfl, by omega, ?_⟩
          rw [show r + 1 - 1 = (r - 1) + 1 by omega, sg, show r - 1 + 1 = r by omega]
        · intro K v M4 ⟨e1, _, e3⟩
          subst e1
          have n0 := numberOfWhole_eq rd hF.1 (what := 0) (by omega)
          unfold f_X5_simulate_b87 f_X5_simulate_b113
          rw [if_pos (by decide), show (0 : Int32) = iz ((0 : Nat) : Int) from rfl, n0, ob_some, e3, show (1000 : Int32) = iz 1000 from rfl, iz_mul, iz_add]
          refine Tot.mk ⟨?_, b, (ho.tr o).wk CI_CT⟩
          have : sg (fun r => nWhole Q (r + 1)) (4 - 1) = (nWhole Q 1 + nWhole Q 2) + nWhole Q 3 := by
            show ((0 + nWhole Q 1) + nWhole Q 2) + nWhole Q 3 = _
            rw [Int.zero_add]
          rw [this]
  · rw [if_neg c]
    refine Cl.no hD 0 (fun M hM => ?_)
    · unfold f_X5_simulate
      by_cases d : v < 1
      · rw [if_pos (by rw [l1]; exact d)]
      · rw [if_neg (by rw [l1]; exact d), if_neg (by rw [l40]; omega)]
theorem k_runScript (D : Ds) (hD : DOk D) {x0 : Int32} {v : Int} (hx0 : x0 = iz v) (v1 : -2147483648 ≤ v) (v2 : v < 2147483648) (w : Int64) : Cl (f_X5_runScript x0 w) D (if 1 ≤ v ∧ v ≤ 3 then (if 0 ≤ w.toInt then (if w.toInt.toNat < 100000 ^ v.toNat then (.ok (iz (rsA w.toInt.toNat v.toNat v.toNat (dP D))), D) else (.error 0, D)) else (.error 0, D)) else (.error 0, D)) := by
  subst hx0
  have hP := hD.2.2.1
  have l1 : (iz v < 1) = (v < 1) := by rw [show (1 : Int32) = iz 1 from rfl, iz_lt v1 v2 (by omega) (by omega)]
  have l3 : ((3 : Int32) < iz v) = (3 < v) := by rw [show (3 : Int32) = iz 3 from rfl, iz_lt (by omega) (by omega) v1 v2]
  have e1 : (iz v = 1) = (v = 1) := by rw [show (1 : Int32) = iz 1 from rfl, iz_eq v1 v2 (by omega) (by omega)]
  have e2 : (iz v = 2) = (v = 2) := by rw [show (2 : Int32) = iz 2 from rfl, iz_eq v1 v2 (by omega) (by omega)]
  have z0 : (0 : Int64).toInt = 0 := by decide
  by_cases c : 1 ≤ v ∧ v ≤ 3
  · rw [if_pos c]
    obtain ⟨n, rfl⟩ : ∃ n : Nat, v = (n : Int) := ⟨v.toNat, by omega⟩
    try simp only [Int.toNat_natCast]
    have hn1 : 1 ≤ n := by omega
    have hn3 : n ≤ 3 := by omega
    have hp := pow5 hn3
    by_cases d : 0 ≤ w.toInt
    · rw [if_pos d]
      have hw := jn_self d
      have hlt := Int64.toInt_lt w
      have hN : w.toInt.toNat < 9223372036854775808 := by omega
      generalize hNd : w.toInt.toNat = N at hw hN
      have gfe := fun M => groupFromEnd_eq hN hn3 M
      by_cases e : N < 100000 ^ n
      · rw [if_pos e]
        have hdiv : N / 100000 ^ n = 0 := Nat.div_eq_of_lt e
        refine Cl.yes (D' := D) hD (iz (rsA N n n (dP D))) (fun M hM => ?_)
        · unfold f_X5_runScript
          rw [if_neg (by rw [l1]; omega), if_neg (by rw [l3]; omega), if_neg (by rw [lgc64_lt, z0]; omega), hw, gfe, ob_some, hdiv, if_pos (by rw [lgc64_eq]; rfl)]
          refine Tot.ob ((c_take hM hD).mono ?_)
          intro ⟨_, M2⟩ ⟨s2, h2, o2⟩
          have s2 : StRep M2 1 (dP D) := s2
          have h2 : CRel M2 D := h2
          have o2 : Off CT M M2 := o2
          rw [show (0 : Int32) = iz ((0 : Nat) : Int) from rfl]
          refine up_tot n (fun i M' => CRel M' D ∧ Off CT M M' ∧ ∃ P', PgOk P' ∧ StRep M' 1 P' ∧ rsA N n n (dP D) = rsA N n (n - i) P') ?_ ?_ 9999 0 M2 (by omega) ⟨h2, o2, dP D, hP, s2, rfl⟩ (by omega)
          · intro K i M' hi ⟨hc, ho, P', hP', hs, eA⟩ hK
            unfold f_X5_runScript_b48
            rw [if_neg (by rw [lez (by omega) (by omega)]; omega)]
            refine Tot.ob ((c_trial hc hs hP'.1).mono ?_)
            intro ⟨_, M3⟩ ⟨rd, s3, h3, o3⟩
            have rd : RD M3 P' := rd
            have s3 : StRep M3 1 P' := s3
            have h3 : CRel M3 D := h3
            have o3 : Off CT M' M3 := o3
            have ei : iz (n : Int) - 1 - iz (i : Int) = iz ((n - (i + 1) : Nat) : Int) := by
              rw [show (1 : Int32) = iz 1 from rfl, iz_sub, iz_sub]
              congr 1
              omega
            dsimp only
            have hk3 : n - (i + 1) ≤ 3 := by omega
            have hle : N / 100000 ^ (n - (i + 1)) ≤ N := Nat.div_le_self _ _
            rw [ei, groupFromEnd_eq hN hk3, ob_some, show (100000 : Int64) = jn 100000 from rfl, jn_mod (by omega) (by omega) (by omega), jn_int (by have := Nat.mod_lt (N / 100000 ^ (n - (i + 1))) (show 100000 > 0 by omega); omega)]
            rw [show n - i = (n - (i + 1)) + 1 by omega, rsA] at eA
            have hg : N / 100000 ^ (n - (i + 1)) % 100000 < 100000 := Nat.mod_lt _ (by omega)
            generalize N / 100000 ^ (n - (i + 1)) % 100000 = g at hg eA
            refine Tot.ob ((c_does rd h3 s3 hP' hg).mono ?_)
            intro ⟨y, M4⟩ ⟨y1, y2, y3, y4⟩
            have y1 : y = iz (b01 (rsg P' g).1) := y1
            have y2 : (rsg P' g).1 = true → StRep M4 1 (rsg P' g).2 := y2
            have y3 : CRel M4 D := y3
            have y4 : Off CT M3 M4 := y4
            have oo : Off CT M M4 := (ho.tr o3).tr y4
            dsimp only
            by_cases k : (rsg P' g).1 = true
            · rw [if_pos k] at eA
              rw [y1, k, if_neg (by decide), a1z]
              exact hK _ ⟨y3, oo, _, rsq_Ok hP' k, y2 k, eA⟩
            · have k' : (rsg P' g).1 = false := by simpa using k
              rw [if_neg k] at eA
              rw [y1, k', if_pos (by decide), eA, show n - (n - (i + 1) + 1) = i by omega]
              exact Tot.mk ⟨rfl, y3, oo.wk CI_CT⟩
          · intro K M' ⟨hc, ho, P', hP', hs, eA⟩
            unfold f_X5_runScript_b48
            rw [if_pos (Int32.le_refl _), eA, Nat.sub_self]
            exact Tot.mk ⟨rfl, hc, ho.wk CI_CT⟩
      · rw [if_neg e]
        refine Cl.no hD 0 (fun M hM => ?_)
        · have hle : N / 100000 ^ n ≤ N := Nat.div_le_self _ _
          have hpos : 0 < N / 100000 ^ n := Nat.div_pos (by omega) hp.1
          unfold f_X5_runScript
          rw [if_neg (by rw [l1]; omega), if_neg (by rw [l3]; omega), if_neg (by rw [lgc64_lt, z0]; omega), hw, gfe, ob_some, if_neg (by rw [lgc64_eq, jn_toInt (by omega), z0]; omega)]
    · rw [if_neg d]
      refine Cl.no hD 0 (fun M hM => ?_)
      · unfold f_X5_runScript
        rw [if_neg (by rw [l1]; omega), if_neg (by rw [l3]; omega), if_pos (by rw [lgc64_lt, z0]; omega)]
  · rw [if_neg c]
    refine Cl.no hD 0 (fun M hM => ?_)
    · unfold f_X5_runScript
      by_cases d : v < 1
      · rw [if_pos (by rw [l1]; exact d)]
      · rw [if_neg (by rw [l1]; exact d), if_pos (by rw [l3]; omega)]
