/-! CHANGED, AND BACK -/
section CH
variable {D : Ds} {M0 : Mem}
theorem changed_ok (hD : DOk D) (hbe : ∀ E, DOk E → AkO f_L_beats E 1 E) {n : Nat} (hn : n < 2147483648) : ∀ M, St1 M0 D M → Tot (f_L_changed (iz (n : Int)) M) (fun x => x.1 = 1 ∧ SK D (dP D) (dP D) M0 x.2) := by
  intro M h
  have hP := hD.2.2.1
  obtain ⟨P, eP⟩ : ∃ P, P = dP D := ⟨_, rfl⟩
  have hP : PgOk P := by rw [eP]; exact hP
  have h1 := hP.1.1.1
  have h2 := hP.1.1.2
  have hsum := nWhole_rng hP (w := 0) (by omega)
  have hbq : ∀ Q : Pg, ∀ E, DOk E → dP E = Q → AkO f_L_beats E 1 E := fun Q E hE _ => hbe E hE
  have d8 : iz (n : Int) / 8 = iz ((n / 8 : Nat) : Int) := izd (k := 8) hn (by omega) (by omega)
  have d512 : iz (n : Int) / 512 = iz ((n / 512 : Nat) : Int) := izd (k := 512) hn (by omega) (by omega)
  have m6 : iz (n : Int) - iz (n : Int) / 6 * 6 = iz ((n % 6 : Nat) : Int) := izm (k := 6) hn (by omega) (by omega)
  have mo : iz ((n / 512 : Nat) : Int) - iz ((n / 512 : Nat) : Int) / 8 * 8 = iz ((n / 512 % 8 : Nat) : Int) := izm (k := 8) (by omega) (by omega) (by omega)
  have e0 : ∀ g : Nat, (0 : Int32) = iz ((0 : Nat) : Int) := fun _ => rfl
  -- the exchange, and what is moved
  have b467 : ∀ M, SK D P P M0 M → Tot (f_L_changed_b467 (iz (n : Int)) (iz (gB P : Int)) (iz (gS P : Int)) (iz (nWhole P 0)) 1 M) (fun x => x.1 = 1 ∧ SK D P P M0 x.2) := fun M h => by
    have nz : ¬ (iz (gS P : Int) = 0) := by rw [show (0 : Int32) = iz 0 from rfl, iz_eq (by omega) (by omega) (by omega) (by omega)]; omega
    have ha : n % gS P < gS P := Nat.mod_lt _ (by omega)
    have hc : n / 8 % gS P < gS P := Nat.mod_lt _ (by omega)
    have ma : iz (n : Int) - iz (n : Int) / iz (gS P : Int) * iz (gS P : Int) = iz ((n % gS P : Nat) : Int) := izm hn (by omega) (by omega)
    have mc : iz ((n / 8 : Nat) : Int) - iz ((n / 8 : Nat) : Int) / iz (gS P : Int) * iz (gS P : Int) = iz ((n / 8 % gS P : Nat) : Int) := izm (by omega) (by omega) (by omega)
    unfold f_L_changed_b467
    rw [if_pos nz, if_pos nz, ma, d8, mc]
    generalize n % gS P = a at ha
    generalize n / 8 % gS P = c at hc
    have dr := nDif_rng P a c (gB P)
    have hQ := pswp_Ok hP ha hc
    refine sk_act hQ (q_exch ha hc rfl rfl) h (fun M h => ?_)
    have b512 : Tot (f_L_changed_b512 (iz (n : Int)) (iz (gB P : Int)) (iz (nWhole P 0)) (iz (a : Int)) (iz (c : Int)) (iz (nDif P a c (gB P))) M) (fun x => x.1 = 1 ∧ SK D P P M0 x.2) := by
      unfold f_L_changed_b512
      have q := q_exch (Q := pswp P a c) (s := a) (d := c) ha hc (x := iz (a : Int)) (y := iz (c : Int)) rfl rfl
      refine sk_act (pswp_Ok hQ (a := a) (c := c) ha hc) q h (fun M h => ?_)
      have e : nDif (pswp P a c) a c (gB (pswp P a c)) = nDif P a c (gB P) := dif_back P a c (gB P)
      rw [e, if_pos rfl]
      have h := sk_peq h swp_back hP
      refine sk_ask (q_whole (w := 0) (by omega) rfl) h (fun M h => ?_)
      rw [if_pos rfl]
      refine sk_res hP h (fun M h => ?_)
      rw [if_pos rfl]
      refine Tot.ob ((moved_ok hP hn M h).mono ?_)
      intro ⟨x, M1⟩ ⟨e, h⟩
      have e : x = 1 := e
      subst e
      show Tot (if (1 : Int32) = 0 then some (0, M1) else some (1, M1)) _
      rw [if_neg (by decide)]
      exact Tot.mk ⟨rfl, h⟩
    rw [if_neg (by decide), if_neg (by rw [show (0 : Int32) = iz 0 from rfl, iz_lt (by omega) (by omega) (by omega) (by omega)]; omega)]
    by_cases k : a = c
    · subst k
      rw [if_pos rfl, if_pos (by rw [dif_self]; rfl)]
      exact b512
    · rw [if_neg (by rw [iz_eq (by omega) (by omega) (by omega) (by omega)]; omega)]
      exact b512
  -- a beat more
  have b407 : ∀ M, SK D P P M0 M → Tot (f_L_changed_b407 (iz (n : Int)) (iz (gB P : Int)) (iz (gS P : Int)) (iz (nWhole P 0)) 1 M) (fun x => x.1 = 1 ∧ SK D P P M0 x.2) := fun M h => by
    unfold f_L_changed_b407
    rw [if_neg (by decide)]
    by_cases c : 16 ≤ gB P
    · rw [if_pos (by rw [show (16 : Int32) = iz ((16 : Nat) : Int) from rfl, lez (by omega) (by omega)]; exact c)]
      exact b467 M h
    · rw [if_neg (by rw [show (16 : Int32) = iz ((16 : Nat) : Int) from rfl, lez (by omega) (by omega)]; exact c)]
      have hQ : PgOk (pmend (popn P (gB P))) := pmend_Ok (popn_W hP.1 (by omega) (Nat.le_refl _))
      refine sk_act hQ (q_ins (Nat.le_refl _) (by omega) rfl) h (fun M h => ?_)
      rw [a1z, if_pos rfl]
      have sd : sp (pmend (popn P (gB P))) (gB P) 0 = -9 := wr_sound (P := pmend (popn P (gB P))) (by show 0 < gS P; omega) (-9) (ins_last 0) (by decide)
      have qc := q_cells (Q := pmend (popn P (gB P))) (s := 0) (b := gB P) (by show 0 < gS P; omega) (by show gB P < gB P + 1; omega) (x := 0) (y := iz (gB P : Int)) rfl rfl
      rw [sd] at qc
      refine sk_ask qc h (fun M h => ?_)
      rw [if_pos (show (iz (-9) : Int32) = -9 from rfl)]
      have qr := q_rem (Q := pmend (popn P (gB P))) (t := gB P) (by show gB P < gB P + 1; omega) (by show 1 < gB P + 1; omega) (x := iz (gB P : Int)) rfl
      refine sk_act (pmend_Ok (pcls_W hQ.1 (by show 1 < gB P + 1; omega) (gB P))) qr h (fun M h => ?_)
      have eB : gB (pmend (popn P (gB P))) - 1 = gB P := by show gB P + 1 - 1 = gB P; omega
      rw [eB, if_pos rfl]
      have h := sk_peq h (beat_back hP) hP
      refine sk_ask (q_whole (w := 0) (by omega) rfl) h (fun M h => ?_)
      rw [if_pos rfl]
      exact b467 M h
  -- a staff more
  have b360 : ∀ M, SK D P P M0 M → Tot (f_L_changed_b360 (iz (n : Int)) (iz (gB P : Int)) (iz (gS P : Int)) (iz (nWhole P 0)) 1 M) (fun x => x.1 = 1 ∧ SK D P P M0 x.2) := fun M h => by
    unfold f_L_changed_b360
    rw [if_neg (by decide)]
    by_cases c : 4 ≤ gS P
    · rw [if_pos (by rw [show (4 : Int32) = iz ((4 : Nat) : Int) from rfl, lez (by omega) (by omega)]; exact c)]
      exact b407 M h
    · rw [if_neg (by rw [show (4 : Int32) = iz ((4 : Nat) : Int) from rfl, lez (by omega) (by omega)]; exact c)]
      have hQ := padd_Ok hP (by omega)
      refine sk_act hQ (q_more (by omega)) h (fun M h => ?_)
      rw [a1z, if_pos rfl]
      have ql := q_less (Q := padd P) (by show 1 < gS P + 1; omega)
      refine sk_act (pdrp_Ok hQ (by show 1 < gS P + 1; omega)) ql h (fun M h => ?_)
      have eS : gS (padd P) - 1 = gS P := by show gS P + 1 - 1 = gS P; omega
      rw [eS, if_pos rfl]
      have h := sk_peq h staff_back hP
      refine sk_ask (q_whole (w := 0) (by omega) rfl) h (fun M h => ?_)
      rw [if_pos rfl]
      exact b407 M h
  have b344 : ∀ Q M, SK D P Q M0 M → Tot (f_L_changed_b344 (iz (n : Int)) (iz (gB P : Int)) (iz (gS P : Int)) (iz (nWhole P 0)) M) (fun x => x.1 = 1 ∧ SK D P P M0 x.2) := fun Q M h => by
    unfold f_L_changed_b344
    refine sk_res hP h (fun M h => ?_)
    rw [if_pos rfl]
    exact b360 M h
  -- the smallest span
  have b254 : ∀ M, SK D P P M0 M → Tot (f_L_changed_b254 (iz (n : Int)) (iz (gB P : Int)) (iz (gS P : Int)) (iz (nWhole P 0)) 1 M) (fun x => x.1 = 1 ∧ SK D P P M0 x.2) := fun M h => by
    unfold f_L_changed_b254
    refine sk_ask q_small h (fun M h => ?_)
    rw [if_neg (by decide)]
    have hE := hP.1.2.1
    rcases spS_fact P 24 1 (by omega) (by omega) with z | ⟨q, q1, q2, q3, q4, q5⟩
    · rw [z, if_pos (show (iz (-9) : Int32) = -9 from rfl)]
      exact b360 M h
    · rw [q3, if_neg (by rw [show (-9 : Int32) = iz (-9) from rfl, iz_eq (by omega) (by omega) (by omega) (by omega)]; omega)]
      have o0 : setOk (0 : Nat) q := Or.inl ⟨rfl, by omega, by omega⟩
      have o1 : setOk (1 : Nat) q := Or.inr (Or.inl ⟨rfl, by omega, by omega⟩)
      have g0 := hE.1
      have g1 := hE.2.1
      have k1 := pset_Ok hP o0
      have k2 : PgOk (spn P q) := pset_Ok k1 o1
      refine sk_act k1 (q_set o0 rfl rfl) h (fun M h => ?_)
      rw [if_neg (by rw [show (0 : Int32) = iz 0 from rfl, iz_le (by omega) (by omega) (by omega) (by omega)]; omega)]
      have qs := q_set (Q := pset P 0 q) o1 (x := 1) (y := iz (q : Int)) rfl rfl
      have ge : gE (pset P 0 q) 1 = gE P 1 := rfl
      rw [ge] at qs
      refine sk_act (Q' := spn P q) k2 qs h (fun M h => ?_)
      rw [if_neg (by rw [show (0 : Int32) = iz 0 from rfl, iz_le (by omega) (by omega) (by omega) (by omega)]; omega)]
      refine sk_ask (q_whole (w := 3) (by omega) rfl) h (fun M h => ?_)
      rw [if_pos q4]
      by_cases c : q = 1
      · rw [if_pos (by rw [c]; rfl)]
        exact b344 _ M h
      · rw [if_neg (by rw [show (1 : Int32) = iz 1 from rfl, iz_eq (by omega) (by omega) (by omega) (by omega)]; omega), show iz (q : Int) - 1 = iz ((q - 1 : Nat) : Int) from pm1 q (by omega)]
        have p0 : setOk (0 : Nat) ((q - 1 : Nat) : Int) := Or.inl ⟨rfl, by omega, by omega⟩
        have p1 : setOk (1 : Nat) ((q - 1 : Nat) : Int) := Or.inr (Or.inl ⟨rfl, by omega, by omega⟩)
        have k3 := pset_Ok k2 p0
        have k4 := pset_Ok k3 p1
        have s0 := q_set (Q := spn P q) p0 (x := 0) (y := iz ((q - 1 : Nat) : Int)) rfl rfl
        have ge0 : gE (spn P q) 0 = q := rfl
        rw [ge0] at s0
        refine sk_act k3 s0 h (fun M h => ?_)
        rw [if_pos rfl]
        have s1 := q_set (Q := pset (spn P q) 0 ((q - 1 : Nat) : Int)) p1 (x := 1) (y := iz ((q - 1 : Nat) : Int)) rfl rfl
        have ge1 : gE (pset (spn P q) 0 ((q - 1 : Nat) : Int)) 1 = q := rfl
        rw [ge1] at s1
        refine sk_act k4 s1 h (fun M h => ?_)
        rw [if_pos rfl]
        rw [spn_again] at h k4
        refine sk_ask (q_whole (w := 3) (by omega) rfl) h (fun M h => ?_)
        have r3 := nWhole_rng k4 (w := 3) (by omega)
        have n3 := q5 (q - 1) (by omega) (by omega)
        rw [if_neg (by
          rw [show (0 : Int32) = iz 0 from rfl, iz_le (by omega) (by omega) (by omega) (by omega)]
          intro z
          exact n3 (by rw [show nWhole (spn P ((q - 1 : Nat) : Int)) 3 = 0 by omega]; rfl))]
        exact b344 _ M h
  -- another setting
  have hof : n / 512 % 8 < 8 := Nat.mod_lt _ (by omega)
  have h6 : n % 6 < 6 := Nat.mod_lt _ (by omega)
  have b189 : ∀ v : Int, setOk ((n % 6 : Nat) : Int) v → ∀ M, SK D P P M0 M → Tot (f_L_changed_b189 (iz (n : Int)) (iz (gB P : Int)) (iz (gS P : Int)) (iz (nWhole P 0)) 1 (iz ((n % 6 : Nat) : Int)) (iz v) M) (fun x => x.1 = 1 ∧ SK D P P M0 x.2) := fun v hv M h => by
    have rE := PgE_rng hP.1.2.1 h6
    unfold f_L_changed_b189
    rw [d512, mo]
    refine sk_ask (q_what hv hof rfl rfl rfl) h (fun M h => ?_)
    rw [if_neg (by decide)]
    refine sk_act (pset_Ok hP hv) (q_set hv rfl rfl) h (fun M h => ?_)
    rw [if_neg (by rw [show (0 : Int32) = iz 0 from rfl, iz_lt (by omega) (by omega) (by omega) (by omega)]; omega)]
    refine sk_ask (q_whole hof rfl) h (fun M h => ?_)
    rw [if_pos rfl]
    refine sk_res hP h (fun M h => ?_)
    rw [if_pos rfl]
    exact b254 M h
  have b124 : ∀ M, SK D P P M0 M → Tot (f_L_changed_b124 (iz (n : Int)) (iz (gB P : Int)) (iz (gS P : Int)) (iz (nWhole P 0)) 1 M) (fun x => x.1 = 1 ∧ SK D P P M0 x.2) := fun M h => by
    unfold f_L_changed_b124
    have md : ∀ k : Nat, 0 < k → k < 100 → iz ((n / 8 : Nat) : Int) - iz ((n / 8 : Nat) : Int) / iz (k : Int) * iz (k : Int) = iz ((n / 8 % k : Nat) : Int) := fun k k0 k1 => izm (by omega) k0 (by omega)
    have w24 : iz ((n / 8 : Nat) : Int) - iz ((n / 8 : Nat) : Int) / 24 * 24 = iz ((n / 8 % 24 : Nat) : Int) := md 24 (by omega) (by omega)
    have w5 : iz ((n / 8 : Nat) : Int) - iz ((n / 8 : Nat) : Int) / 5 * 5 = iz ((n / 8 % 5 : Nat) : Int) := md 5 (by omega) (by omega)
    have w10 : iz ((n / 8 : Nat) : Int) - iz ((n / 8 : Nat) : Int) / 10 * 10 = iz ((n / 8 % 10 : Nat) : Int) := md 10 (by omega) (by omega)
    have w2 : iz ((n / 8 : Nat) : Int) - iz ((n / 8 : Nat) : Int) / 2 * 2 = iz ((n / 8 % 2 : Nat) : Int) := md 2 (by omega) (by omega)
    have pl : ∀ k : Nat, (1 : Int32) + iz (k : Int) = iz ((1 : Int) + k) := fun k => by rw [show (1 : Int32) = iz 1 from rfl, iz_add]
    have x24 : n / 8 % 24 < 24 := Nat.mod_lt _ (by omega)
    have x5 : n / 8 % 5 < 5 := Nat.mod_lt _ (by omega)
    have x10 : n / 8 % 10 < 10 := Nat.mod_lt _ (by omega)
    have x2 : n / 8 % 2 < 2 := Nat.mod_lt _ (by omega)
    rw [m6, d8, w24, w5, w10, w2, pl, pl]
    by_cases c2 : 2 ≤ n % 6
    · rw [if_pos (by rw [show (2 : Int32) = iz ((2 : Nat) : Int) from rfl, lez (by omega) (by omega)]; exact c2)]
      by_cases c3 : n % 6 = 2
      · rw [if_pos (by rw [c3]; rfl)]
        exact b189 _ (by omega) M h
      · rw [if_neg (by rw [show (2 : Int32) = iz 2 from rfl, iz_eq (by omega) (by omega) (by omega) (by omega)]; omega)]
        by_cases c4 : n % 6 = 3
        · rw [if_pos (by rw [c4]; rfl)]
          exact b189 _ (by omega) M h
        · rw [if_neg (by rw [show (3 : Int32) = iz 3 from rfl, iz_eq (by omega) (by omega) (by omega) (by omega)]; omega)]
          exact b189 _ (by omega) M h
    · rw [if_neg (by rw [show (2 : Int32) = iz ((2 : Nat) : Int) from rfl, lez (by omega) (by omega)]; exact c2)]
      exact b189 _ (by omega) M h
  -- the modes
  have s50 : setOk (5 : Nat) (0 : Int) := by omega
  have s51 : setOk (5 : Nat) (1 : Int) := by omega
  have k0 := pset_Ok hP s50
  have k1 := pset_Ok k0 s51
  have ml := mode_le k0 (show gE (pset P 5 0) 5 = 0 from rfl)
  have b44 : ∀ M, SK D P (pset P 5 0) M0 M → Tot (f_L_changed_b44 (iz (n : Int)) (iz (gB P : Int)) (iz (gS P : Int)) (iz (nWhole P 0)) 1 M) (fun x => x.1 = 1 ∧ SK D P P M0 x.2) := fun M h => by
    have w0 := nWhole_rng k0 (w := 0) (by omega)
    have w1 := nWhole_rng k1 (w := 0) (by omega)
    have hb0 : 0 < gB (pset P 5 0) := by show 0 < gB P; omega
    have hb1 : 0 < gB (pset (pset P 5 0) 5 1) := by show 0 < gB P; omega
    have r0 := co_rng k0.1 hb0 0 (sq (pset P 5 0) 0)
    have r1 := co_rng k1.1 hb1 0 (sq (pset (pset P 5 0) 5 1) 0)
    have n0 : nBeat (pset P 5 0) 0 2 = iz (co (pset P 5 0) 0 0 (sq (pset P 5 0) 0)) := rfl
    have n1 : nBeat (pset (pset P 5 0) 5 1) 0 2 = iz (co (pset (pset P 5 0) 5 1) 0 0 (sq (pset (pset P 5 0) 5 1) 0)) := rfl
    unfold f_L_changed_b44
    refine sk_ask (q_whole (w := 0) (by omega) rfl) h (fun M h => ?_)
    refine sk_ask (q_beat (b := 0) (w := 2) hb0 (by omega) rfl rfl) h (fun M h => ?_)
    rw [if_neg (by decide)]
    refine sk_ask (hbq _) h (fun M h => ?_)
    rw [if_neg (by decide)]
    refine sk_act k1 (q_set s51 rfl rfl) h (fun M h => ?_)
    rw [if_pos (show iz (gE (pset P 5 0) 5) = 0 from rfl)]
    refine sk_ask (q_whole (w := 0) (by omega) rfl) h (fun M h => ?_)
    rw [if_neg (by rw [iz_lt (by omega) (by omega) (by omega) (by omega)]; omega)]
    refine sk_ask (q_beat (b := 0) (w := 2) hb1 (by omega) rfl rfl) h (fun M h => ?_)
    rw [n0, n1, if_neg (by rw [iz_lt (by omega) (by omega) (by omega) (by omega)]; omega)]
    refine sk_ask (hbq _) h (fun M h => ?_)
    rw [if_neg (by decide)]
    refine sk_res hP h (fun M h => ?_)
    rw [if_pos rfl]
    exact b124 M h
  rw [← eP]
  unfold f_L_changed
  refine stp (a_B hD) h (fun M h => ?_)
  refine stp (a_S hD) h (fun M h => ?_)
  refine stp (a_whole hD (w := 0) (by omega) rfl) h (fun M h => ?_)
  have as := a_save hD (s := 0) (by omega) (x := 0) rfl
  refine stp as h (fun M h => ?_)
  rw [if_pos rfl, ← eP]
  have h : SK D P P M0 M := ⟨dSav D 0, ⟨as.1, rfl, rfl, eP.symm, rfl, rfl⟩, eP.symm, h⟩
  have rE := PgE_rng hP.1.2.1 (j := 5) (by omega)
  refine sk_act k0 (q_set s50 rfl rfl) h (fun M h => ?_)
  rw [if_neg (by rw [show (0 : Int32) = iz 0 from rfl, iz_lt (by omega) (by omega) (by omega) (by omega)]; omega)]
  exact b44 M h
end CH
