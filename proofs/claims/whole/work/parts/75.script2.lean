theorem note0_hv {M : Mem} {P : Pg} {s b : Nat} (hL : LD M P) (hP : PgW P) (hs : s < gS P) (hb : b < gB P) : nNote P s b 0 = hv P b (sq P b) s := by
  have h1 := hP.1.1
  have kpt := lb_kept (hL.1 b hb).2.1.2.2 (s := s) (by omega)
  unfold nNote hv
  by_cases r9 : rho P b s = -9
  · rw [if_pos (Or.inl r9), if_neg (fun z => by have := kpt.mp z; omega), r9]
  · rw [if_neg (by omega), if_neg (by omega)]
    by_cases k0 : rho P b s = 0
    · rw [if_neg (fun z => z k0), if_neg (by omega), if_pos (kpt.mpr k0)]
    · rw [if_pos k0, if_neg (fun z => k0 (kpt.mp z))]
abbrev SMq (D : Ds) (M : Mem) (r : Bool × Pg) (x : Int32 × Mem) : Prop := x.1 = iz (b01 r.1) ∧ (r.1 = true → PR x.2 31 0 r.2) ∧ MRel x.2 D ∧ x.2 27 = M 27 ∧ Off MI M x.2
theorem m_does {M : Mem} {D : Ds} {P : Pg} (hM : MRel M D) (st : PR M 31 0 P) (hP : PgOk P) {h a b t : Nat} (h1 : h < 10) (h2 : a < 10) (h3 : b < 10) (h4 : t < 100) : Tot (f_X6_does (iz h) (iz a) (iz b) (iz t) M) (SMq D M (rsq P h a b t)) := by
  have hS := hP.1.1.1
  have hB := hP.1.1.2
  have i7 : inb 7 72 := by decide
  unfold f_X6_does
  have eN : ∀ n k : Nat, n < 1000 → k < 1000 → (iz (n : Int) = iz (k : Int)) = (n = k) := fun n k hn hk => by
    rw [iz_eq (by omega) (by omega) (by omega) (by omega)]
    exact propext ⟨fun h => by omega, fun h => by omega⟩
  have q1 : (iz (h : Int) = 1) = (h = 1) := eN h 1 (by omega) (by omega)
  have q2 : (iz (h : Int) = 2) = (h = 2) := eN h 2 (by omega) (by omega)
  have q3 : (iz (h : Int) = 3) = (h = 3) := eN h 3 (by omega) (by omega)
  have q4 : (iz (h : Int) = 4) = (h = 4) := eN h 4 (by omega) (by omega)
  have q5 : (iz (h : Int) = 5) = (h = 5) := eN h 5 (by omega) (by omega)
  have q6 : (iz (h : Int) = 6) = (h = 6) := eN h 6 (by omega) (by omega)
  have q7 : (iz (h : Int) = 7) = (h = 7) := eN h 7 (by omega) (by omega)
  have q8 : (iz (h : Int) = 8) = (h = 8) := eN h 8 (by omega) (by omega)
  have q9 : (iz (h : Int) = 9) = (h = 9) := eN h 9 (by omega) (by omega)
  have zb : (iz (b : Int) = 0) = (b = 0) := eN b 0 (by omega) (by omega)
  have za : (iz (a : Int) = 0) = (a = 0) := eN a 0 (by omega) (by omega)
  have zt : (iz (t : Int) = 0) = (t = 0) := eN t 0 (by omega) (by omega)
  have bad : ∀ Q : Pg, Tot (some ((0 : Int32), M)) (SMq D M (false, Q)) := fun Q => Tot.mk ⟨rfl, fun z => absurd (show false = true from z) (by decide), hM, rfl, Off.rf⟩
  have cellE : ∀ M2, PR M2 31 0 P → f_X6_isCell 31 (iz (a : Int)) (iz (b : Int)) M2 = some (bz (a < gS P ∧ b < gB P), M2) := fun M2 st2 => by
    rw [isCell_eq st2 hP.1.1 rfl (by omega) (by omega) (by omega) (by omega)]
    congr 2
    exact bz_iff ⟨fun z => by omega, fun z => by omega⟩
  have wri : ∀ (v : Int) (Q : Bool × Pg), ((-1000 ≤ v ∧ v < 0) ∨ v = 99 ∨ (0 ≤ v ∧ v ≤ 60)) → Q = (decide ((a < gS P ∧ b < gB P) ∧ canW P a b v), pwr P a b v) → Tot (ob (f_X6_writes (iz (a : Int)) (iz (b : Int)) (iz v) M) (fun x3 M4 => if x3 = 0 then some ((0 : Int32), M4) else some (1, M4))) (SMq D M Q) := fun v Q hv hQ => by
    rw [hQ]
    refine Tot.ob ((m_cell hM st hP.1 (s := a) (b := b) (by omega) (by omega) hv).mono ?_)
    intro ⟨x, M2⟩ ⟨x1, x2, x3, x4, x5⟩
    have x1 : x = bz ((a < gS P ∧ b < gB P) ∧ canW P a b v) := x1
    dsimp only
    rw [x1, bz_ite, bz_dec]
    refine Tot.mk ⟨rfl, fun z => ?_, x3, x4, x5⟩
    have := of_decide_eq_true z
    rw [if_pos this] at x2
    exact x2
  unfold rsq
  by_cases k1 : h = 1
  · rw [if_pos (by rw [q1]; exact k1), if_pos k1]
    by_cases c : b = 0
    · rw [if_pos (by rw [zb]; exact c), misSetting_eq (by omega) (by omega) (by omega) (by omega), ob_some]
      by_cases d : setOk a t
      · have ha : a < 6 := by omega
        have o1 : Off (fun d => d = 31) M (mw M 31 a (iz (t : Int))) := Off.rf.put rfl
        have t1 := hM.tri (Or.inl rfl) o1
        rw [if_neg (by rw [bz_t d]; decide), if_pos (inb_n (n := a) (by omega) (by omega)), cl_n (n := a) (by omega), decide_eq_true ⟨c, d⟩]
        exact Tot.mk ⟨rfl, fun _ => pr_set st a ha t, t1⟩
      · rw [if_pos (show bz (setOk a t) = 0 from bz_f d), decide_eq_false (fun z => d z.2)]
        exact bad _
    · rw [if_neg (by rw [zb]; exact c), decide_eq_false (fun z => c z.1)]
      exact bad _
  · rw [if_neg (by rw [q1]; exact k1), if_neg k1]
    by_cases k2 : h = 2
    · have l60 : ((60 : Int32) < iz (t : Int)) = (60 < t) := by rw [show (60 : Int32) = iz ((60 : Nat) : Int) from rfl, ltz (by omega) (by omega)]
      rw [if_pos (by rw [q2]; exact k2), if_pos k2]
      by_cases c : 60 < t
      · rw [if_pos (by rw [l60]; exact c), decide_eq_false (fun z => by omega)]
        exact bad _
      · rw [if_neg (by rw [l60]; exact c)]
        refine wri t _ (by omega) ?_
        congr 1
        refine decide_eq_decide.mpr ⟨fun z => ⟨z.2, Or.inl (by omega)⟩, fun z => ⟨by omega, z.1⟩⟩
    · rw [if_neg (by rw [q2]; exact k2), if_neg k2]
      by_cases k3 : h = 3
      · rw [if_pos (by rw [q3]; exact k3), if_pos k3]
        by_cases c : t = 0
        · rw [if_pos (by rw [zt]; exact c), show (-1 : Int32) = iz (-1) from rfl]
          refine wri (-1) _ (by omega) ?_
          congr 1
          refine decide_eq_decide.mpr ⟨fun z => ⟨z.2, Or.inl (by omega)⟩, fun z => ⟨c, z.1⟩⟩
        · rw [if_neg (by rw [zt]; exact c), decide_eq_false (fun z => c z.1)]
          exact bad _
      · rw [if_neg (by rw [q3]; exact k3), if_neg k3]
        by_cases k4 : h = 4
        · rw [if_pos (by rw [q4]; exact k4), if_pos k4]
          by_cases c : t = 0
          · rw [if_pos (by rw [zt]; exact c), show (99 : Int32) = iz 99 from rfl]
            refine wri 99 _ (by omega) ?_
            congr 1
            refine decide_eq_decide.mpr ⟨fun z => z.2, fun z => ⟨c, z⟩⟩
          · rw [if_neg (by rw [zt]; exact c), decide_eq_false (fun z => c z.1)]
            exact bad _
        · rw [if_neg (by rw [q4]; exact k4), if_neg k4]
          by_cases k5 : h = 5
          · have ztm : (iz ((t % 10 : Nat) : Int) = 0) = (t % 10 = 0) := eN (t % 10) 0 (by omega) (by omega)
            rw [if_pos (by rw [q5]; exact k5), if_pos k5, show (10 : Int32) = iz ((10 : Nat) : Int) from rfl, izm (n := t) (k := 10) (by omega) (by omega) (by omega), izd (n := t) (k := 10) (by omega) (by omega) (by omega)]
            by_cases c : a = 0
            · rw [if_pos (by rw [za]; exact c)]
              by_cases d : t % 10 = 0
              · rw [if_pos (by rw [ztm]; exact d), isStaff_eq st hP.1.1 rfl (by omega) (by omega), ob_some]
                by_cases e : b < gS P
                · rw [if_neg (by rw [bz_t (by omega)]; decide), isStaff_eq st hP.1.1 rfl (by omega) (by omega), ob_some]
                  by_cases f : t / 10 < gS P
                  · rw [if_neg (by rw [bz_t (by omega)]; decide), decide_eq_true ⟨c, d, e, f⟩]
                    refine Tot.ob ((mswap_tot st hP.1 rfl e f).mono ?_)
                    intro ⟨x, M2⟩ ⟨_, x2, x3⟩
                    exact Tot.mk ⟨rfl, fun _ => x2, hM.tri (Or.inl rfl) x3⟩
                  · rw [if_pos (show bz _ = 0 from bz_f (by omega)), decide_eq_false (fun z => f z.2.2.2)]
                    exact bad _
                · rw [if_pos (show bz _ = 0 from bz_f (by omega)), decide_eq_false (fun z => e z.2.2.1)]
                  exact bad _
              · rw [if_neg (by rw [ztm]; exact d), decide_eq_false (fun z => d z.2.1)]
                exact bad _
            · rw [if_neg (by rw [za]; exact c), decide_eq_false (fun z => c z.1)]
              exact bad _
          · rw [if_neg (by rw [q5]; exact k5), if_neg k5]
            by_cases k6 : h = 6
            · rw [if_pos (by rw [q6]; exact k6), if_pos k6]
              by_cases c : t = 0
              · have em : (10 : Int32) * iz (a : Int) + iz (b : Int) = iz ((10 * a + b : Nat) : Int) := by rw [show (10 : Int32) = iz 10 from rfl, iz_mul, iz_add]; rfl
                have eB1 : (iz (gB P : Int) = 1) = (gB P = 1) := eN (gB P) 1 (by omega) (by omega)
                rw [if_pos (by rw [zt]; exact c), em, isBeat_eq st hP.1.1 rfl (by omega) (by omega), ob_some]
                by_cases e : 10 * a + b < gB P
                · rw [if_neg (by rw [bz_t (by omega)]; decide), if_pos i7, c7, st.B]
                  by_cases f : 1 < gB P
                  · rw [if_neg (by rw [eB1]; omega), decide_eq_true ⟨c, e, f⟩]
                    refine Tot.ob ((mdrop_tot st hP.1 rfl f e).mono ?_)
                    intro ⟨x, M2⟩ ⟨x2, x3⟩
                    exact Tot.mk ⟨rfl, fun _ => x2, hM.tri (Or.inl rfl) x3⟩
                  · rw [if_pos (by rw [eB1]; omega), decide_eq_false (fun z => f z.2.2)]
                    exact bad _
                · rw [if_pos (show bz _ = 0 from bz_f (by omega)), decide_eq_false (fun z => e z.2.1)]
                  exact bad _
              · rw [if_neg (by rw [zt]; exact c), decide_eq_false (fun z => c z.1)]
                exact bad _
            · rw [if_neg (by rw [q6]; exact k6), if_neg k6]
              by_cases k7 : h = 7
              · have l8 : ((8 : Int32) ≤ iz (a : Int)) = (8 ≤ a) := by rw [show (8 : Int32) = iz ((8 : Nat) : Int) from rfl, lez (by omega) (by omega)]
                have em : (100 : Int32) * iz (b : Int) + iz (t : Int) = iz ((100 * b + t : Nat) : Int) := by rw [show (100 : Int32) = iz 100 from rfl, iz_mul, iz_add]; rfl
                rw [if_pos (by rw [q7]; exact k7), if_pos k7, em]
                by_cases c : 8 ≤ a
                · rw [if_pos (by rw [l8]; exact c), decide_eq_false (fun z => by omega)]
                  exact bad _
                · rw [if_neg (by rw [l8]; exact c)]
                  refine Tot.ob ((m_num (r := 31) (w := a) (by omega) hM st hP (by omega)).mono ?_)
                  intro ⟨x, M2⟩ ⟨x1, x2, x3, x4, x5⟩
                  have x1 : x = iz (nWhole P a) := x1
                  dsimp only
                  rw [x1, ite_bz, bz_dec]
                  refine Tot.mk ⟨?_, fun _ => x2, x3, x4, x5⟩
                  show iz (b01 (decide (iz (nWhole P a) = iz ((100 * b + t : Nat) : Int)))) = iz (b01 (decide (a < 8 ∧ iz (nWhole P a) = iz ((100 * b + t : Nat) : Int))))
                  by_cases e : iz (nWhole P a) = iz ((100 * b + t : Nat) : Int)
                  · rw [decide_eq_true e, decide_eq_true ⟨by omega, e⟩]
                  · rw [decide_eq_false e, decide_eq_false (fun z => e z.2)]
              · rw [if_neg (by rw [q7]; exact k7), if_neg k7]
                have lay := lay_tot st hP rfl (by omega)
                by_cases k8 : h = 8
                · rw [if_pos (by rw [q8]; exact k8), if_pos k8]
                  refine Tot.ob (lay.mono ?_)
                  intro ⟨_, M2⟩ ⟨L, o⟩
                  have L : LD M2 P := L
                  have o : Off RLy M M2 := o
                  have s2 : PR M2 31 0 P := st.same (o 31 (by unfold RLy; omega))
                  have h2' : MRel M2 D := hM.tmp (o.wk (fun d hd => by unfold RLy at hd; unfold MT; omega))
                  have e27 : M2 27 = M 27 := o 27 (by unfold RLy; omega)
                  have oo : Off MI M M2 := o.wk (fun d hd => by unfold RLy at hd; unfold MI; omega)
                  have bad2 : ∀ Q : Pg, Tot (some ((0 : Int32), M2)) (SMq D M (false, Q)) := fun Q => Tot.mk ⟨rfl, fun z => absurd (show false = true from z) (by decide), h2', e27, oo⟩
                  have l2 : ((2 : Int32) ≤ iz (t : Int)) = (2 ≤ t) := by rw [show (2 : Int32) = iz ((2 : Nat) : Int) from rfl, lez (by omega) (by omega)]
                  dsimp only
                  by_cases d : a < gS P ∧ b < gB P
                  · have hsq := msq_ok L.1 hP.1.2.1 b d.2
                    have hvr := hv_rng P b (sq P b) a
                    have nh := note0_hv L hP.1 d.1 d.2
                    rw [nh]
                    have ee : ∀ n : Nat, n < 1000 → (iz (hv P b (sq P b) a) = iz (n : Int)) = (hv P b (sq P b) a = n) := fun n hn => iz_eq (by omega) (by omega) (by omega) (by omega)
                    by_cases c : 2 ≤ t
                    · rw [if_pos (by rw [l2]; exact c), decide_eq_false (fun z => by have := (ee _ (by omega)).mp z.2.2; omega)]
                      exact bad2 _
                    · rw [if_neg (by rw [l2]; exact c), cellE M2 s2, ob_some, if_neg (by rw [bz_t d]; decide), if_pos (inb_n (n := b) (by omega) (by omega)), cl_n (n := b) (by omega), L.2 b d.2, handOf_eq (L.1 b d.2) hP.1.1 d.2 (by omega) hsq, ob_some, ite_bz, bz_dec]
                      refine Tot.mk ⟨?_, fun _ => s2, h2', e27, oo⟩
                      show iz (b01 (decide (iz (hv P b (sq P b) a) = iz (t : Int)))) = iz (b01 (decide (t / 10 = 0 ∧ (a < gS P ∧ b < gB P) ∧ iz (hv P b (sq P b) a) = iz ((t % 10 : Nat) : Int))))
                      rw [show t % 10 = t by omega]
                      by_cases e : iz (hv P b (sq P b) a) = iz (t : Int)
                      · rw [decide_eq_true e, decide_eq_true ⟨by omega, d, e⟩]
                      · rw [decide_eq_false e, decide_eq_false (fun z => e z.2.2)]
                  · rw [decide_eq_false (fun z => d z.2.1)]
                    by_cases c : 2 ≤ t
                    · rw [if_pos (by rw [l2]; exact c)]; exact bad2 _
                    · rw [if_neg (by rw [l2]; exact c), cellE M2 s2, ob_some, if_pos (show bz _ = 0 from bz_f d)]; exact bad2 _
                · rw [if_neg (by rw [q8]; exact k8), if_neg k8]
                  by_cases k9 : h = 9
                  · rw [if_pos (by rw [q9]; exact k9), if_pos k9]
                    refine Tot.ob (lay.mono ?_)
                    intro ⟨_, M2⟩ ⟨L, o⟩
                    have L : LD M2 P := L
                    have o : Off RLy M M2 := o
                    have s2 : PR M2 31 0 P := st.same (o 31 (by unfold RLy; omega))
                    have h2' : MRel M2 D := hM.tmp (o.wk (fun d hd => by unfold RLy at hd; unfold MT; omega))
                    have e27 : M2 27 = M 27 := o 27 (by unfold RLy; omega)
                    have oo : Off MI M M2 := o.wk (fun d hd => by unfold RLy at hd; unfold MI; omega)
                    have bad2 : ∀ Q : Pg, Tot (some ((0 : Int32), M2)) (SMq D M (false, Q)) := fun Q => Tot.mk ⟨rfl, fun z => absurd (show false = true from z) (by decide), h2', e27, oo⟩
                    have l10 : ((10 : Int32) ≤ iz (t : Int)) = (10 ≤ t) := by rw [show (10 : Int32) = iz ((10 : Nat) : Int) from rfl, lez (by omega) (by omega)]
                    dsimp only
                    by_cases c : 10 ≤ t
                    · rw [if_pos (by rw [l10]; exact c), decide_eq_false (fun z => by omega)]
                      exact bad2 _
                    · rw [if_neg (by rw [l10]; exact c), cellE M2 s2, ob_some]
                      by_cases d : a < gS P ∧ b < gB P
                      · have hL := L.1 b d.2
                        have hx := pg_lt hP.1.1 d.1 d.2
                        have sr := sp_rng hP.1 d.2 a
                        have hro := rho_RO P b a
                        have hrr := rho_rng P b a
                        have e9 : (iz (sp P b a) = -9) = (sp P b a = -9) := by rw [show (-9 : Int32) = iz (-9) from rfl, iz_eq (by omega) (by omega) (by omega) (by omega)]
                        have n1 : nNote P a b 1 = rho P b a := by unfold nNote; rw [if_pos (Or.inr rfl)]
                        rw [n1, if_neg (by rw [bz_t d]; decide), at_eq, ob_some, if_pos (inb_n hx (by omega)), cl_n (n := 16 * a + b) (by omega), hL.1.1 a d.1]
                        by_cases c9 : sp P b a = -9
                        · have r9 := hro.2.mpr c9
                          have ne : ¬ (iz (-9) = iz ((t % 10 : Nat) : Int)) := by rw [iz_eq (by omega) (by omega) (by omega) (by omega)]; omega
                          rw [if_pos (by rw [e9]; exact c9), r9, decide_eq_false (fun z => ne z.2.2)]
                          exact bad2 _
                        · have r9 : ¬ rho P b a = -9 := fun z => c9 (hro.2.mp z)
                          have hmr : mr (rho P b) a = rho P b a := by unfold mr; rw [if_neg r9]
                          rw [if_neg (by rw [e9]; exact c9), at_eq, ob_some, if_pos (inb_n hx (by omega)), cl_n (n := 16 * a + b) (by omega), hL.1.2 a d.1, hmr, ite_bz, bz_dec]
                          refine Tot.mk ⟨?_, fun _ => s2, h2', e27, oo⟩
                          show iz (b01 (decide (iz (rho P b a) = iz (t : Int)))) = iz (b01 (decide (t / 10 = 0 ∧ (a < gS P ∧ b < gB P) ∧ iz (rho P b a) = iz ((t % 10 : Nat) : Int))))
                          rw [show t % 10 = t by omega]
                          by_cases e : iz (rho P b a) = iz (t : Int)
                          · rw [decide_eq_true e, decide_eq_true ⟨by omega, d, e⟩]
                          · rw [decide_eq_false e, decide_eq_false (fun z => e z.2.2)]
                      · rw [if_pos (show bz _ = 0 from bz_f d), decide_eq_false (fun z => d z.2.1)]
                        exact bad2 _
                  · rw [if_neg (by rw [q9]; exact k9), if_neg k9]
                    exact bad _
