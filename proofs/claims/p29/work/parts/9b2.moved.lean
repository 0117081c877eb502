/-! TRANSPOSED, AND WITHOUT A STAFF -/
section QA
variable {Q : Pg}
theorem q_B : ∀ D, DOk D → dP D = Q → Ak (f_L_tryAbout 7) D (iz (gB Q : Int)) D := fun D hD hq => by subst hq; exact a_B hD
theorem q_S : ∀ D, DOk D → dP D = Q → Ak (f_L_tryAbout 6) D (iz (gS Q : Int)) D := fun D hD hq => by subst hq; exact a_S hD
theorem q_whole {w : Nat} (hw : w < 8) {x : Int32} (hx : x = iz (w : Int)) : ∀ D, DOk D → dP D = Q → Ak (f_L_tryWhole x) D (iz (nWhole Q w)) D := fun D hD hq => by subst hq; exact a_whole hD hw hx
theorem q_beat {b w : Nat} (hb : b < gB Q) (hw : w < 5) {y z : Int32} (hy : y = iz (b : Int)) (hz : z = iz (w : Int)) : ∀ D, DOk D → dP D = Q → Ak (f_L_tryBeat y z) D (nBeat Q b w) D := fun D hD hq => by subst hq; exact a_beat hD hb hw hy hz
theorem q_small : ∀ D, DOk D → dP D = Q → Ak f_X5_smallestSpan D (iz (spS Q 24)) D := fun D hD hq => by subst hq; exact a_small hD
theorem q_dear : ∀ D, DOk D → dP D = Q → Ak f_X5_dearest D (iz (dea Q (gS Q - 1)).1) D := fun D hD hq => by subst hq; exact a_dear hD
theorem q_best {s : Nat} (hs : s < gS Q) {x : Int32} (hx : x = iz (s : Int)) : ∀ D, DOk D → dP D = Q → Ak (f_L_tryBestTransposition x) D (iz (bt Q s 120).1) D := fun D hD hq => by subst hq; exact a_best hD hs hx
theorem q_what {j w : Nat} {v : Int} (hv : setOk j v) (hw : w < 8) {x y z : Int32} (hx : x = iz (j : Int)) (hy : y = iz v) (hz : z = iz (w : Int)) : ∀ D, DOk D → dP D = Q → Ak (f_L_tryWhatIf x y z) D (iz (nWhole (pset Q j v) w)) D := fun D hD hq => by subst hq; exact a_whatIf hD hv hw hx hy hz
theorem q_cells {s b : Nat} (hs : s < gS Q) (hb : b < gB Q) {x y : Int32} (hx : x = iz (s : Int)) (hy : y = iz (b : Int)) : ∀ D, DOk D → dP D = Q → Ak (f_L_tryCell x y 1) D (iz (sp Q b s)) D := fun D hD hq => by subst hq; exact a_cells hD hs hb hx hy
theorem q_set {j : Nat} {v : Int} (hv : setOk j v) {x y : Int32} (hx : x = iz (j : Int)) (hy : y = iz v) : ∀ D, DOk D → dP D = Q → Ak (f_L_trySet x y) D (iz (gE Q j)) (dPut (dRem D) (pset Q j v)) := fun D hD hq => by subst hq; exact a_set hD hv hx hy
theorem q_write {s b : Nat} (hs : s < gS Q) (hb : b < gB Q) {x y : Int32} (hx : x = iz (s : Int)) (hy : y = iz (b : Int)) : ∀ D, DOk D → dP D = Q → Ak (f_L_tryWrite x y (-1)) D (iz (gC Q s b)) (dPut (dRem D) (pwr Q s b (-1))) := fun D hD hq => by subst hq; exact a_write hD hs hb (Or.inr (by omega)) (Or.inl (by decide)) hx hy rfl
theorem q_trans {s : Nat} {d : Int} (hs : s < gS Q) (hd : -60 ≤ d ∧ d ≤ 60) (hc : canMv Q s d) {x y : Int32} (hx : x = iz (s : Int)) (hy : y = iz d) : ∀ D, DOk D → dP D = Q → Ak (f_L_tryTranspose x y) D (iz (nPit Q s (gB Q))) (dPut (dRem D) (pmov Q s d)) := fun D hD hq => by subst hq; exact a_trans hD hs hd hc hx hy
theorem q_transN {s : Nat} {d : Int} (hs : s < gS Q) (hd : -60 ≤ d ∧ d ≤ 60) (hc : ¬ canMv Q s d) {x y : Int32} (hx : x = iz (s : Int)) (hy : y = iz d) : ∀ D, DOk D → dP D = Q → Ak (f_L_tryTranspose x y) D (-1003) D := fun D hD hq => by subst hq; exact a_transN hD hs hd hc hx hy
theorem q_exch {s d : Nat} (hs : s < gS Q) (hd : d < gS Q) {x y : Int32} (hx : x = iz (s : Int)) (hy : y = iz (d : Int)) : ∀ D, DOk D → dP D = Q → Ak (f_L_tryExchange x y) D (iz (nDif Q s d (gB Q))) (dPut (dRem D) (pswp Q s d)) := fun D hD hq => by subst hq; exact a_exch hD hs hd hx hy
theorem q_more (h : gS Q < 4) : ∀ D, DOk D → dP D = Q → Ak (f_L_tryStaff 1) D (iz ((gS Q + 1 : Nat) : Int)) (dPut (dRem D) (padd Q)) := fun D hD hq => by subst hq; exact a_more hD h
theorem q_less (h : 1 < gS Q) : ∀ D, DOk D → dP D = Q → Ak (f_L_tryStaff 0) D (iz ((gS Q - 1 : Nat) : Int)) (dPut (dRem D) (pdrp Q)) := fun D hD hq => by subst hq; exact a_less hD h
theorem q_ins {t : Nat} (ht : t ≤ gB Q) (h : gB Q < 16) {x : Int32} (hx : x = iz (t : Int)) : ∀ D, DOk D → dP D = Q → Ak (f_L_tryInsertBeat x) D (iz ((gB Q + 1 : Nat) : Int)) (dPut (dRem D) (pmend (popn Q t))) := fun D hD hq => by subst hq; exact a_ins hD ht h hx
theorem q_rem {t : Nat} (ht : t < gB Q) (h : 1 < gB Q) {x : Int32} (hx : x = iz (t : Int)) : ∀ D, DOk D → dP D = Q → Ak (f_L_tryRemoveBeat x) D (iz ((gB Q - 1 : Nat) : Int)) (dPut (dRem D) (pmend (pcls Q t))) := fun D hD hq => by subst hq; exact a_rem hD ht h hx
end QA
theorem moved_ok {D0 : Ds} {P : Pg} {M0 : Mem} (hP : PgOk P) {n : Nat} (hn : n < 2147483648) : ∀ M, SK D0 P P M0 M → Tot (f_L_moved (iz (n : Int)) (iz (nWhole P 0)) M) (fun x => x.1 = 1 ∧ SK D0 P P M0 x.2) := by
  intro M h
  have h1 := hP.1.1.1
  have h2 := hP.1.1.2
  have d64 : iz (n : Int) / 64 = iz ((n / 64 : Nat) : Int) := izd (k := 64) hn (by omega) (by omega)
  have d256 : iz (n : Int) / 256 = iz ((n / 256 : Nat) : Int) := izd (k := 256) hn (by omega) (by omega)
  have m25 : iz ((n / 256 : Nat) : Int) - iz ((n / 256 : Nat) : Int) / 25 * 25 = iz ((n / 256 % 25 : Nat) : Int) := izm (k := 25) (by omega) (by omega) (by omega)
  have mS : iz ((n / 64 : Nat) : Int) - iz ((n / 64 : Nat) : Int) / iz (gS P : Int) * iz (gS P : Int) = iz ((n / 64 % gS P : Nat) : Int) := izm (by omega) (by omega) (by omega)
  have ht : n / 64 % gS P < gS P := Nat.mod_lt _ (by omega)
  have hd25 : n / 256 % 25 < 25 := Nat.mod_lt _ (by omega)
  have hsum := nWhole_rng hP (w := 0) (by omega)
  obtain ⟨j, j1, j2, j3, j4, j5⟩ := bt_fact (P := P) (n / 64 % gS P) 120
  have hj := byI_rng j1
  have hb0 := nWhole_rng (pmov_Ok hP j3) (w := 0) (by omega)
  obtain ⟨m, m1, m2, m3, m4⟩ := dea_fact (P := P) (gS P - 1)
  have c0 : canMv P (n / 64 % gS P) (byI 0) := by
    intro b hb hq
    show pit (gC P (n / 64 % gS P) b + 0)
    rw [Int.add_zero]; exact hq
  have e0 : nWhole (pmov P (n / 64 % gS P) (byI 0)) 0 = nWhole P 0 := by
    show nWhole (pmov P (n / 64 % gS P) 0) 0 = _
    rw [pmov0]
  have le0 : nWhole (pmov P (n / 64 % gS P) (byI j)) 0 ≤ nWhole P 0 := by
    rcases j5 0 (by omega) c0 with z | z
    · rw [e0, j4] at z; omega
    · rw [e0, j4] at z; omega
  generalize n / 64 % gS P = t at *
  -- the last check
  have b387 : ∀ M, SK D0 P P M0 M → Tot (f_L_moved_b387 (iz (nWhole P 0)) (iz (gS P : Int)) 1 (iz (m : Int)) M) (fun x => x.1 = 1 ∧ SK D0 P P M0 x.2) := fun M h => by
    unfold f_L_moved_b387
    rw [if_neg (by decide), if_neg (by rw [show (0 : Int32) = iz ((0 : Nat) : Int) from rfl, ltz (by omega) (by omega)]; omega), if_neg (by rw [lez (by omega) (by omega)]; omega)]
    refine sk_ask (q_whole (w := 0) (by omega) rfl) h (fun M h => ?_)
    rw [if_pos rfl]
    exact Tot.mk ⟨rfl, h⟩
  have b222 : ∀ M, SK D0 P P M0 M → Tot (f_L_moved_b222 (iz (nWhole P 0)) (iz (gB P : Int)) (iz (gS P : Int)) 1 M) (fun x => x.1 = 1 ∧ SK D0 P P M0 x.2) := fun M h => by
    unfold f_L_moved_b222
    refine sk_ask q_dear h (fun M h => ?_)
    rw [m2]
    show Tot (lq3 (f_L_moved_b234 (iz (nWhole P 0)) (iz (gB P : Int)) (iz (gS P : Int)) (iz (m : Int))) 5 1 0 (iz ((0 : Nat) : Int)) M) _
    refine up3_tot (gS P) (fun i g l M' => g = 1 ∧ (0 < i → l = iz (nWhole (psil P m) 0)) ∧ SK D0 P P M0 M') ?_ ?_ 5 0 1 0 M (by omega) ⟨rfl, fun z => absurd z (Nat.lt_irrefl 0), h⟩ (by omega)
    · intro K i g l M1 hi ⟨hg, hl, h⟩ hK
      subst hg
      have b272 : ∀ k : Nat, k < gS P → (i = 0 → k = m) → Tot (f_L_moved_b272 (iz (nWhole P 0)) (iz (gB P : Int)) (iz (gS P : Int)) 1 (iz (m : Int)) l (iz (i : Int)) K (iz (k : Int)) M1) (fun x => x.1 = 1 ∧ SK D0 P P M0 x.2) := fun k hk hkm => by
        unfold f_L_moved_b272
        rw [show (0 : Int32) = iz ((0 : Nat) : Int) from rfl]
        refine up2_tot (gB P) (fun b g M' => g = 1 ∧ ∃ Q, Emp P k b Q ∧ SK D0 P Q M0 M') ?_ ?_ 17 0 1 M1 (by omega) ⟨rfl, P, ⟨hP, rfl, rfl, rfl, fun _ _ _ _ _ => rfl, fun b hb => absurd hb (Nat.not_lt_zero b)⟩, h⟩ (by omega)
        · intro K2 b g M2 hb ⟨hg, Q, hQ, h⟩ hK2
          subst hg
          unfold f_L_moved_b277
          rw [if_neg (by rw [lez (by omega) (by omega)]; omega), if_neg (by decide)]
          have hs' := hQ.step hb
          have hc := cOk_lt (hQ.1.1.2.2 k b (by rw [hQ.2.1]; exact hk) (by rw [hQ.2.2.1]; exact hb))
          refine sk_act hs'.1 (q_write (by rw [hQ.2.1]; exact hk) (by rw [hQ.2.2.1]; exact hb) rfl rfl) h (fun M h => ?_)
          rw [if_neg (by rw [show (-9 : Int32) = iz (-9) from rfl, iz_lt (by omega) (by omega) (by omega) (by omega)]; omega), a1z]
          exact hK2 _ _ ⟨rfl, _, hs', h⟩
        · intro K2 g M2 ⟨hg, Q, hQ, h⟩
          subst hg
          unfold f_L_moved_b277 f_L_moved_b315
          have hk2 := psil_Ok hP k
          rw [if_pos (Int32.le_refl _)]
          have h := sk_peq h hQ.all hk2
          have hr := nWhole_rng hk2 (w := 0) (by omega)
          have hrm := nWhole_rng (psil_Ok hP m) (w := 0) (by omega)
          have f1 := m4 k (by omega)
          rw [m3] at f1
          refine sk_ask (q_whole (w := 0) (by omega) rfl) h (fun M3 h => ?_)
          have b334 : Tot (f_L_moved_b334 (iz (nWhole P 0)) (iz (gB P : Int)) (iz (gS P : Int)) 1 (iz (m : Int)) (iz (i : Int)) (iz (k : Int)) (iz (nWhole (psil P k) 0)) K (iz (nWhole (psil P m) 0)) M3) (fun x => x.1 = 1 ∧ SK D0 P P M0 x.2) := by
            have b365 : Tot (f_L_moved_b365 (iz (nWhole P 0)) (iz (gB P : Int)) (iz (gS P : Int)) (iz (m : Int)) (iz (nWhole (psil P m) 0)) (iz (i : Int)) K M3) (fun x => x.1 = 1 ∧ SK D0 P P M0 x.2) := by
              unfold f_L_moved_b365
              refine sk_res hP h (fun M4 h => ?_)
              rw [if_pos rfl, a1z]
              exact hK _ _ _ ⟨rfl, fun _ => rfl, h⟩
            unfold f_L_moved_b334
            rw [if_neg (by decide)]
            by_cases c : m ≤ k
            · rw [if_pos (by rw [lez (by omega) (by omega)]; exact c), if_neg (by rw [iz_lt (by omega) (by omega) (by omega) (by omega)]; omega)]
              exact b365
            · rw [if_neg (by rw [lez (by omega) (by omega)]; exact c), if_neg (by rw [iz_le (by omega) (by omega) (by omega) (by omega)]; omega)]
              exact b365
          by_cases c : i = 0
          · rw [if_pos (by rw [c]; rfl)]
            have := hkm c
            subst this
            exact b334
          · rw [if_neg (by rw [show (0 : Int32) = iz 0 from rfl, iz_eq (by omega) (by omega) (by omega) (by omega)]; omega), hl (by omega)]
            exact b334
      unfold f_L_moved_b234
      rw [if_neg (by rw [lez (by omega) (by omega)]; omega), if_neg (by decide)]
      by_cases c : i = 0
      · rw [if_pos (by rw [c]; rfl)]
        exact b272 m (by omega) (fun _ => rfl)
      · rw [if_neg (by rw [show (0 : Int32) = iz 0 from rfl, iz_eq (by omega) (by omega) (by omega) (by omega)]; omega)]
        by_cases k : m < i
        · rw [if_pos (by rw [ltz (by omega) (by omega)]; exact k)]
          exact b272 i hi (fun z => absurd z c)
        · rw [if_neg (by rw [ltz (by omega) (by omega)]; exact k), show iz (i : Int) - 1 = iz ((i - 1 : Nat) : Int) from pm1 i (by omega)]
          exact b272 (i - 1) (by omega) (fun z => absurd z c)
    · intro K g l M1 ⟨hg, _, h⟩
      subst hg
      unfold f_L_moved_b234
      rw [if_pos (Int32.le_refl _)]
      exact b387 M1 h
  have b206 : ∀ Q M, SK D0 P Q M0 M → Tot (f_L_moved_b206 (iz (nWhole P 0)) (iz (gB P : Int)) (iz (gS P : Int)) M) (fun x => x.1 = 1 ∧ SK D0 P P M0 x.2) := fun Q M h => by
    unfold f_L_moved_b206 f_L_moved_b220
    refine sk_res hP h (fun M h => ?_)
    rw [if_pos rfl]
    exact b222 M h
  have b107 : ∀ M, SK D0 P P M0 M → Tot (f_L_moved_b107 (iz (n : Int)) (iz (nWhole P 0)) (iz (gB P : Int)) (iz (gS P : Int)) (iz (t : Int)) (iz (byI j)) (iz (nWhole (pmov P t (byI j)) 0)) 1 M) (fun x => x.1 = 1 ∧ SK D0 P P M0 x.2) := fun M h => by
    unfold f_L_moved_b107
    rw [if_neg (by decide), d256, m25, show iz ((n / 256 % 25 : Nat) : Int) - 12 = iz (((n / 256 % 25 : Nat) : Int) - 12) by rw [show (12 : Int32) = iz 12 from rfl, iz_sub]]
    obtain ⟨d, hd⟩ : ∃ d : Int, d = ((n / 256 % 25 : Nat) : Int) - 12 := ⟨_, rfl⟩
    rw [← hd]
    by_cases cm : canMv P t d
    · have hw := nWhole_rng (pmov_Ok hP cm) (w := 0) (by omega)
      have np := nPit_rng P t (gB P)
      refine sk_act (pmov_Ok hP cm) (q_trans ht (by omega) cm rfl rfl) h (fun M h => ?_)
      rw [if_neg (by rw [show (-1003 : Int32) = iz (-1003) from rfl, iz_eq (by omega) (by omega) (by omega) (by omega)]; omega)]
      refine sk_ask (q_whole (w := 0) (by omega) rfl) h (fun M h => ?_)
      obtain ⟨i, i1, i2⟩ := byI_at (d := d) (by omega) (by omega)
      have f1 := j5 i i1 (by rw [i2]; exact cm)
      rw [i2, j4] at f1
      have b176 : ∀ a b : Int, a = d.natAbs → b = (byI j).natAbs → Tot (f_L_moved_b176 (iz (nWhole P 0)) (iz (gB P : Int)) (iz (gS P : Int)) (iz (byI j)) (iz (nWhole (pmov P t (byI j)) 0)) (iz d) (iz (nWhole (pmov P t d) 0)) (iz a) (iz b) M) (fun x => x.1 = 1 ∧ SK D0 P P M0 x.2) := fun a b ha hb => by
        unfold f_L_moved_b176
        rw [if_neg (by rw [iz_lt (by omega) (by omega) (by omega) (by omega)]; omega)]
        by_cases c1 : nWhole (pmov P t (byI j)) 0 < nWhole (pmov P t d) 0
        · rw [if_pos (by rw [iz_lt (by omega) (by omega) (by omega) (by omega)]; exact c1)]
          exact b206 _ M h
        · rw [if_neg (by rw [iz_lt (by omega) (by omega) (by omega) (by omega)]; exact c1)]
          have hji : j ≤ i := by
            rcases f1 with z | z
            · exact absurd z c1
            · exact z.2
          have nr := byI_near hji
          rw [i2] at nr
          by_cases c2 : b < a
          · rw [if_pos (by rw [iz_lt (by omega) (by omega) (by omega) (by omega)]; exact c2)]
            exact b206 _ M h
          · rw [if_neg (by rw [iz_lt (by omega) (by omega) (by omega) (by omega)]; exact c2), if_neg (by rw [iz_lt (by omega) (by omega) (by omega) (by omega)]; omega)]
            exact b206 _ M h
      have b161 : ∀ a : Int, a = d.natAbs → Tot (f_L_moved_b161 (iz (nWhole P 0)) (iz (gB P : Int)) (iz (gS P : Int)) (iz (byI j)) (iz (nWhole (pmov P t (byI j)) 0)) (iz d) (iz (nWhole (pmov P t d) 0)) (iz a) M) (fun x => x.1 = 1 ∧ SK D0 P P M0 x.2) := fun a ha => by
        unfold f_L_moved_b161
        by_cases c : 0 ≤ byI j
        · rw [if_pos (by rw [show (0 : Int32) = iz 0 from rfl, iz_le (by omega) (by omega) (by omega) (by omega)]; exact c)]
          exact b176 a (byI j) ha (by omega)
        · rw [if_neg (by rw [show (0 : Int32) = iz 0 from rfl, iz_le (by omega) (by omega) (by omega) (by omega)]; exact c), iz_neg]
          exact b176 a (-byI j) ha (by omega)
      by_cases c : 0 ≤ d
      · rw [if_pos (by rw [show (0 : Int32) = iz 0 from rfl, iz_le (by omega) (by omega) (by omega) (by omega)]; exact c)]
        exact b161 d (by omega)
      · rw [if_neg (by rw [show (0 : Int32) = iz 0 from rfl, iz_le (by omega) (by omega) (by omega) (by omega)]; exact c), iz_neg]
        exact b161 (-d) (by omega)
    · refine sk_ask (q_transN ht (by omega) cm rfl rfl) h (fun M h => ?_)
      rw [if_pos rfl]
      exact b222 M h
  have b93 : ∀ Q M, SK D0 P Q M0 M → Tot (f_L_moved_b93 (iz (n : Int)) (iz (nWhole P 0)) (iz (gB P : Int)) (iz (gS P : Int)) (iz (t : Int)) (iz (byI j)) (iz (nWhole (pmov P t (byI j)) 0)) M) (fun x => x.1 = 1 ∧ SK D0 P P M0 x.2) := fun Q M h => by
    unfold f_L_moved_b93
    refine sk_res hP h (fun M h => ?_)
    rw [if_pos rfl]
    exact b107 M h
  unfold f_L_moved
  refine sk_ask q_B h (fun M h => ?_)
  refine sk_ask q_S h (fun M h => ?_)
  rw [if_pos (by rw [show (0 : Int32) = iz 0 from rfl, iz_eq (by omega) (by omega) (by omega) (by omega)]; omega), d64, mS]
  refine sk_ask (q_best ht rfl) h (fun M h => ?_)
  rw [j2, if_neg (by rw [show (-60 : Int32) = iz (-60) from rfl, iz_lt (by omega) (by omega) (by omega) (by omega)]; omega), if_neg (by rw [show (60 : Int32) = iz 60 from rfl, iz_lt (by omega) (by omega) (by omega) (by omega)]; omega)]
  have np := nPit_rng P t (gB P)
  refine sk_act (pmov_Ok hP j3) (q_trans ht hj j3 rfl rfl) h (fun M h => ?_)
  rw [if_neg (by rw [show (0 : Int32) = iz 0 from rfl, iz_lt (by omega) (by omega) (by omega) (by omega)]; omega)]
  unfold f_L_moved_b62
  refine sk_ask (q_whole (w := 0) (by omega) rfl) h (fun M h => ?_)
  rw [if_neg (by decide), if_neg (by rw [iz_lt (by omega) (by omega) (by omega) (by omega)]; omega)]
  by_cases c : byI j = 0
  · rw [if_pos (by rw [c]; rfl)]
    exact b93 _ M h
  · rw [if_neg (by rw [show (0 : Int32) = iz 0 from rfl, iz_eq (by omega) (by omega) (by omega) (by omega)]; exact c), if_neg (by
      rw [iz_le (by omega) (by omega) (by omega) (by omega)]
      rcases j5 0 (by omega) c0 with z | z
      · rw [e0, j4] at z; omega
      · exact absurd (by rw [show j = 0 by omega]; rfl) c)]
    exact b93 _ M h
