/-! THE BEST TRANSPOSITION -/
def byI (i : Nat) : Int := if i % 2 = 1 then (((i + 1) / 2 : Nat) : Int) else -((i / 2 : Nat) : Int)
noncomputable def btS (P : Pg) (s : Nat) (d : Int) (x : Int × Int) : Int × Int := if canMv P s d then (if nWhole (pmov P s d) 0 < x.2 then (d, nWhole (pmov P s d) 0) else x) else x
noncomputable def bt (P : Pg) (s : Nat) : Nat → Int × Int
  | 0 => (0, nWhole P 0)
  | n + 1 => btS P s (byI (n + 1)) (bt P s n)
theorem bt_rng {P : Pg} (h : PgOk P) (s : Nat) : ∀ n, 0 ≤ (bt P s n).2 ∧ (bt P s n).2 ≤ 3200
  | 0 => nWhole0_rng h.1
  | n + 1 => by
    have ih := bt_rng h s n
    show 0 ≤ (btS P s (byI (n + 1)) (bt P s n)).2 ∧ (btS P s (byI (n + 1)) (bt P s n)).2 ≤ 3200
    unfold btS
    by_cases c : canMv P s (byI (n + 1))
    · rw [if_pos c]
      by_cases d : nWhole (pmov P s (byI (n + 1))) 0 < (bt P s n).2
      · rw [if_pos d]; exact nWhole0_rng (pmov_Ok h c).1
      · rw [if_neg d]; exact ih
    · rw [if_neg c]; exact ih
theorem pmov0 (P : Pg) (s : Nat) : pmov P s 0 = P := by
  have : (fun s' b => if s' = s ∧ pit (gC P s' b) then gC P s' b + 0 else gC P s' b) = gC P := by
    funext s' b
    rw [Int.add_zero, ite_self]
  show (gE P, gS P, gB P, (fun s' b => if s' = s ∧ pit (gC P s' b) then gC P s' b + 0 else gC P s' b)) = P
  rw [this]
theorem byI_rng {i : Nat} (h : i ≤ 120) : -60 ≤ byI i ∧ byI i ≤ 60 := by
  unfold byI
  by_cases c : i % 2 = 1
  · rw [if_pos c]; omega
  · rw [if_neg c]; omega
theorem g_best (D : Ds) (hD : DOk D) (x : Int32) : Agree h_L_bestTransposition (f_X5_bestTransposition x) (f_X6_bestTransposition x) D := by
  obtain ⟨s, rfl, s1, s2⟩ := izself x
  have hP := hD.2.2.1
  have hS := hP.1.1.1
  have ms : ∀ M, MRel M D → f_X6_isStaff 30 (iz s) M = some (bz (0 ≤ s ∧ s < gS (dP D)), M) := fun M hM => isStaff_eq hM.2.1 hP.1.1 rfl s1 s2
  by_cases c : 0 ≤ s ∧ s < gS (dP D)
  · obtain ⟨t, rfl⟩ : ∃ t : Nat, s = (t : Int) := ⟨s.toNat, by omega⟩
    have ht : t < gS (dP D) := by omega
    refine Agree.yes (D' := D) hD (iz (bt (dP D) t 120).1) (fun M hM => ?_) (fun M hM => ?_)
    · unfold f_X5_bestTransposition
      rw [reqStaff hM hD s1 s2, if_pos c, oe_ok]
      show Tot (lq3 (f_X5_bestTransposition_b13 (iz (t : Int))) 9999 0 1000000 (iz ((0 : Nat) : Int)) M) _
      refine up3_tot 121 (fun i v1 v2 M' => CRel M' D ∧ Off CT M M' ∧ (i = 0 → v1 = 0 ∧ v2 = 1000000) ∧ (0 < i → v1 = iz (bt (dP D) t (i - 1)).1 ∧ v2 = iz (bt (dP D) t (i - 1)).2)) ?_ ?_ 9999 0 _ _ M (by omega) ⟨hM, Off.rf, fun _ => ⟨rfl, rfl⟩, fun z => absurd z (Nat.not_lt_zero _)⟩ (by omega)
      · intro K i v1 v2 M' hi ⟨hc, ho, hz, hp⟩ hK
        unfold f_X5_bestTransposition_b13
        have hr := byI_rng (i := i) (by omega)
        have l120 : ¬ ((120 : Int32) < iz (i : Int)) := by rw [show (120 : Int32) = iz ((120 : Nat) : Int) from rfl, ltz (by omega) (by omega)]; omega
        rw [if_neg l120]
        -- what the way comes to
        have b42 : Tot (f_X5_bestTransposition_b42 (iz (t : Int)) v1 v2 (iz (i : Int)) K (iz (byI i)) M') (fun x => x.1 = .ok (iz (bt (dP D) t 120).1) ∧ CRel x.2 D ∧ Off CI M x.2) := by
          unfold f_X5_bestTransposition_b42
          rw [allowsMoving_eq hc.2.1 hP.1 ht hr.1 hr.2, ob_some, a1z]
          by_cases cm : canMv (dP D) t (byI i)
          · rw [if_neg (by rw [bz_t cm]; decide)]
            refine Tot.ob ((c_take hc hD).mono ?_)
            intro ⟨_, M2⟩ ⟨s2, h2, o2⟩
            have s2 : StRep M2 1 (dP D) := s2
            have h2 : CRel M2 D := h2
            have o2 : Off CT M' M2 := o2
            refine Tot.ob ((moveStaff_tot s2 hP.1 ht hr.1 hr.2 cm).mono ?_)
            intro ⟨_, M3⟩ ⟨_, s3, o3⟩
            have s3 : StRep M3 1 (pmov (dP D) t (byI i)) := s3
            have o3 : Off (RSt 1) M2 M3 := o3
            have hq := pmov_Ok hP cm
            refine Tot.ob ((c_num (w := 0) (h2.tri o3) s3 hq.1 (by omega)).mono ?_)
            intro ⟨y, M4⟩ ⟨b1, b2, b3, b4⟩
            have b1 : y = iz (nWhole (pmov (dP D) t (byI i)) 0) := b1
            have b4 : Off CT M3 M4 := b4
            have oo : Off CT M M4 := ((ho.tr o2).tr (o3.wk (fun d hd => Or.inl hd))).tr b4
            have hw := nWhole0_rng hq.1
            show Tot (if v2 ≤ y then K v1 v2 (iz ((i + 1 : Nat) : Int)) M4 else K (iz (byI i)) y (iz ((i + 1 : Nat) : Int)) M4) _
            by_cases z : i = 0
            · subst z
              rw [(hz rfl).2, b1, if_neg (by rw [show (1000000 : Int32) = iz 1000000 from rfl, iz_le (by omega) (by omega) (by omega) (by omega)]; omega)]
              refine hK _ _ _ ⟨b3, oo, fun z => absurd z (by omega), fun _ => ⟨rfl, ?_⟩⟩
              show iz (nWhole (pmov (dP D) t 0) 0) = iz (nWhole (dP D) 0)
              rw [pmov0]
            · obtain ⟨q1, q2⟩ := hp (by omega)
              have br := bt_rng hP t (i - 1)
              have ed : bt (dP D) t i = btS (dP D) t (byI i) (bt (dP D) t (i - 1)) := by
                obtain ⟨n, rfl⟩ : ∃ n, i = n + 1 := ⟨i - 1, by omega⟩
                rfl
              unfold btS at ed
              rw [if_pos cm] at ed
              rw [q1, q2, b1]
              by_cases k : nWhole (pmov (dP D) t (byI i)) 0 < (bt (dP D) t (i - 1)).2
              · rw [if_neg (by rw [iz_le (by omega) (by omega) (by omega) (by omega)]; omega)]
                refine hK _ _ _ ⟨b3, oo, fun z => absurd z (by omega), fun _ => ?_⟩
                rw [show i + 1 - 1 = i by omega, ed, if_pos k]
                exact ⟨rfl, rfl⟩
              · rw [if_pos (by rw [iz_le (by omega) (by omega) (by omega) (by omega)]; omega)]
                refine hK _ _ _ ⟨b3, oo, fun z => absurd z (by omega), fun _ => ?_⟩
                rw [show i + 1 - 1 = i by omega, ed, if_neg k]
                exact ⟨rfl, rfl⟩
          · rw [if_pos (show bz (canMv (dP D) t (byI i)) = 0 from bz_f cm)]
            have i0 : i ≠ 0 := fun z => cm (by rw [z]; intro b hb hq; show pit (gC (dP D) t b + 0); rw [Int.add_zero]; exact hq)
            obtain ⟨q1, q2⟩ := hp (by omega)
            have ed : bt (dP D) t i = btS (dP D) t (byI i) (bt (dP D) t (i - 1)) := by
              obtain ⟨n, rfl⟩ : ∃ n, i = n + 1 := ⟨i - 1, by omega⟩
              rfl
            unfold btS at ed
            rw [if_neg cm] at ed
            refine hK _ _ _ ⟨hc, ho, fun z => absurd z (by omega), fun _ => ?_⟩
            rw [show i + 1 - 1 = i by omega, ed]
            exact ⟨q1, q2⟩
        have e2 : iz (i : Int) / 2 = iz ((i / 2 : Nat) : Int) := by rw [show (2 : Int32) = iz 2 from rfl, iz_div (by omega) (by omega) (by omega) (by omega)]; rfl
        have em : iz (i : Int) - iz (i : Int) / 2 * 2 = iz ((i % 2 : Nat) : Int) := by
          rw [e2, show (2 : Int32) = iz 2 from rfl, iz_mul, iz_sub]
          congr 1
          omega
        have e1 : (iz ((i % 2 : Nat) : Int) = 1) = (i % 2 = 1) := by
          rw [show (1 : Int32) = iz 1 from rfl, iz_eq (by omega) (by omega) (by omega) (by omega)]
          exact propext ⟨fun h => by omega, fun h => by omega⟩
        have e12 : iz ((i + 1 : Nat) : Int) / 2 = iz (((i + 1) / 2 : Nat) : Int) := by rw [show (2 : Int32) = iz 2 from rfl, iz_div (by omega) (by omega) (by omega) (by omega)]; rfl
        rw [em, a1z, e12, e2, iz_neg]
        by_cases k : i % 2 = 1
        · rw [if_pos (by rw [e1]; exact k)]
          have : byI i = (((i + 1) / 2 : Nat) : Int) := by unfold byI; rw [if_pos k]
          rw [← this]; exact b42
        · rw [if_neg (by rw [e1]; exact k)]
          have : byI i = -((i / 2 : Nat) : Int) := by unfold byI; rw [if_neg k]
          rw [← this]; exact b42
      · intro K v1 v2 M' ⟨hc, ho, _, hp⟩
        unfold f_X5_bestTransposition_b13
        rw [if_pos (by decide)]
        exact Tot.mk ⟨congrArg _ (hp (by omega)).1, hc, ho.wk CI_CT⟩
    · unfold f_X6_bestTransposition
      rw [ms M hM, ob_some, if_neg (by rw [bz_t c]; decide)]
      unfold f_X6_bestTransposition_b17
      rw [ref_yes]
      have o0 : Off MI M (mw M 27 0 0) := Off.rf.put (by unfold MI; omega)
      have h0 := hM.put (j := 0) (v := 0) (Or.inl rfl)
      refine Tot.ob ((m_num (r := 30) (w := 0) (by omega) h0 h0.2.1 hP (by omega)).mono ?_)
      intro ⟨y, M2⟩ ⟨b1, _, h2, e2, o2⟩
      have b1 : y = iz (nWhole (dP D) 0) := b1
      have h2 : MRel M2 D := h2
      have e2 : M2 27 = mw M 27 0 0 27 := e2
      have o2 : Off MI (mw M 27 0 0) M2 := o2
      have z2 : M2 27 0 = 0 := by rw [e2, mw_at, if_pos rfl]
      have oo2 : Off MI M M2 := o0.tr o2
      show Tot (lq3 (f_X6_bestTransposition_b40 (iz (t : Int))) 9999 0 y (iz ((1 : Nat) : Int)) M2) _
      rw [b1]
      refine up3_tot 61 (fun i v1 v2 M' => 1 ≤ i ∧ MRel M' D ∧ M' 27 0 = 0 ∧ Off MI M M' ∧ v1 = iz (bt (dP D) t (2 * (i - 1))).1 ∧ v2 = iz (bt (dP D) t (2 * (i - 1))).2) ?_ ?_ 9999 1 _ _ M2 (by omega) ⟨by omega, h2, z2, oo2, rfl, rfl⟩ (by omega)
      · intro K i v1 v2 M' hi ⟨hi1, hc, hz, ho, q1, q2⟩ hK
        unfold f_X6_bestTransposition_b40
        rw [if_neg (by rw [show (60 : Int32) = iz ((60 : Nat) : Int) from rfl, ltz (by omega) (by omega)]; omega), q1, q2]
        -- one way
        have way : ∀ (n : Nat) (w : Int) (k50 : Int32 → Int32 → Int32 → Mem → Option (Int32 × Mem)) (M' : Mem), n < 120 → byI (n + 1) = w * i → -1 ≤ w → w ≤ 1 → MRel M' D → M' 27 0 = 0 → Off MI M M' → (∀ M'', MRel M'' D → M'' 27 0 = 0 → Off MI M M'' → Tot (k50 (iz (bt (dP D) t (n + 1)).1) (iz (bt (dP D) t (n + 1)).2) (iz (w - 2)) M'') (fun x => x.1 = iz (bt (dP D) t 120).1 ∧ x.2 27 0 = 0 ∧ MRel x.2 D ∧ Off MI M x.2)) → Tot (f_X6_bestTransposition_b50 (iz (t : Int)) (iz (i : Int)) K k50 (iz (bt (dP D) t n).1) (iz (bt (dP D) t n).2) (iz w) M') (fun x => x.1 = iz (bt (dP D) t 120).1 ∧ x.2 27 0 = 0 ∧ MRel x.2 D ∧ Off MI M x.2) := fun n w k50 M' hn hb w0 w1 hc hz ho hk => by
          unfold f_X6_bestTransposition_b50
          have hr := byI_rng (i := n + 1) (by omega)
          have hmul : iz w * iz (i : Int) = iz (byI (n + 1)) := by rw [iz_mul, hb]
          have hdn : iz w + -2 = iz (w - 2) := by rw [show (-2 : Int32) = iz (-2) from rfl, iz_add]; rfl
          have ed : bt (dP D) t (n + 1) = btS (dP D) t (byI (n + 1)) (bt (dP D) t n) := rfl
          unfold btS at ed
          have br := bt_rng hP t n
          rw [if_neg (by rw [show (-1 : Int32) = iz (-1) from rfl, iz_lt (by omega) (by omega) (by omega) (by omega)]; omega), hmul, hdn]
          obtain ⟨c, e, hc1, hc0⟩ := canShift_eq hc.2.1 hP.1 rfl ht hr.1 hr.2
          rw [e, ob_some]
          by_cases cm : canMv (dP D) t (byI (n + 1))
          · rw [if_pos cm] at ed
            rw [hc1 cm, if_neg (by decide)]
            refine Tot.ob ((m_copy (r := 32) (Or.inr rfl) hc hD).mono ?_)
            intro ⟨_, M2⟩ ⟨s2, h2, e2, o2⟩
            have s2 : PR M2 32 0 (dP D) := s2
            have h2 : MRel M2 D := h2
            have e2 : M2 27 = M' 27 := e2
            have o2 : Off MI M' M2 := o2
            refine Tot.ob ((mshift_tot s2 hP.1 rfl ht hr.1 hr.2).mono ?_)
            intro ⟨_, M3⟩ ⟨_, s3, o3⟩
            have s3 : PR M3 32 0 (pmov (dP D) t (byI (n + 1))) := s3
            have t3 := h2.tri (Or.inr rfl) o3
            have t3 : MRel M3 D ∧ M3 27 = M2 27 ∧ Off MI M2 M3 := t3
            have hq := pmov_Ok hP cm
            refine Tot.ob ((m_num (r := 32) (w := 0) (by omega) t3.1 s3 hq (by omega)).mono ?_)
            intro ⟨y, M4⟩ ⟨b1, _, b3, b4, b5⟩
            have b1 : y = iz (nWhole (pmov (dP D) t (byI (n + 1))) 0) := b1
            have b3 : MRel M4 D := b3
            have b4 : M4 27 = M3 27 := b4
            have b5 : Off MI M3 M4 := b5
            have oo : Off MI M M4 := ((ho.tr o2).tr t3.2.2).tr b5
            have z4 : M4 27 0 = 0 := by rw [b4, t3.2.1, e2]; exact hz
            have hw := nWhole0_rng hq.1
            unfold f_X6_bestTransposition_b125
            have hle : (iz (bt (dP D) t n).2 ≤ y) = ((bt (dP D) t n).2 ≤ nWhole (pmov (dP D) t (byI (n + 1))) 0) := by
              rw [b1]; exact iz_le (by omega) (by omega) (by omega) (by omega)
            have kk := hk M4 b3 z4 oo
            show Tot (if iz (bt (dP D) t n).2 ≤ y then (if iz (bt (dP D) t n).2 ≤ y then k50 (iz (bt (dP D) t n).1) (iz (bt (dP D) t n).2) (iz w + -2) M4 else k50 (iz (bt (dP D) t n).1) y (iz w + -2) M4) else (if iz (bt (dP D) t n).2 ≤ y then k50 (iz (byI (n + 1))) (iz (bt (dP D) t n).2) (iz w + -2) M4 else k50 (iz (byI (n + 1))) y (iz w + -2) M4)) _
            rw [hdn]
            by_cases k : nWhole (pmov (dP D) t (byI (n + 1))) 0 < (bt (dP D) t n).2
            · rw [if_pos k] at ed
              rw [ed] at kk
              rw [if_neg (by rw [hle]; omega), if_neg (by rw [hle]; omega), b1]
              exact kk
            · rw [if_neg k] at ed
              rw [ed] at kk
              rw [if_pos (by rw [hle]; omega), if_pos (by rw [hle]; omega)]
              exact kk
          · rw [if_neg cm] at ed
            rw [hc0 cm, if_pos rfl]
            have kk := hk M' hc hz ho
            rw [ed] at kk
            exact kk
        obtain ⟨N, hN⟩ : ∃ N, 9999 = N + 1 + 1 + 1 := ⟨9996, rfl⟩
        have e1 : byI (2 * (i - 1) + 1) = 1 * (i : Int) := by
          unfold byI
          rw [if_pos (by omega)]
          omega
        have e2 : byI (2 * (i - 1) + 1 + 1) = -1 * (i : Int) := by
          unfold byI
          rw [if_neg (by omega)]
          omega
        rw [hN, lq3_s, show (1 : Int32) = iz 1 from rfl]
        refine way (2 * (i - 1)) 1 _ M' (by omega) e1 (by omega) (by omega) hc hz ho (fun M3 h3 z3 o3 => ?_)
        rw [lq3_s, show (1 : Int) - 2 = -1 from rfl]
        refine way (2 * (i - 1) + 1) (-1) _ M3 (by omega) e2 (by omega) (by omega) h3 z3 o3 (fun M4 h4 z4 o4 => ?_)
        rw [lq3_s]
        unfold f_X6_bestTransposition_b50
        rw [if_pos (by decide), a1z]
        refine hK _ _ _ ⟨by omega, h4, z4, o4, ?_, ?_⟩
        · rw [show 2 * (i - 1) + 1 + 1 = 2 * (i + 1 - 1) by omega]
        · rw [show 2 * (i - 1) + 1 + 1 = 2 * (i + 1 - 1) by omega]
      · intro K v1 v2 M' ⟨_, hc, hz, ho, q1, q2⟩
        unfold f_X6_bestTransposition_b40
        rw [if_pos (by decide)]
        exact Tot.mk ⟨q1, hz, hc, ho⟩
  · refine Agree.no hD 2 1 rfl (by omega) (fun M hM => ?_) (fun M hM => ?_)
    · unfold f_X5_bestTransposition
      rw [reqStaff hM hD s1 s2, if_neg c, oe_er]
    · unfold f_X6_bestTransposition
      rw [ms M hM, ob_some, if_pos (show bz (0 ≤ s ∧ s < gS (dP D)) = 0 from bz_f c)]
      unfold f_X6_bestTransposition_b17
      exact ⟨_, ref_no (n := 1) (by omega) (by omega) M _ _⟩
