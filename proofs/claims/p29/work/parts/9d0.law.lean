/-! THE LAW -/
abbrev Two (M : Mem) : Prop := ∃ D, DOk D ∧ S2 D D M
theorem s2_deq {D E : Ds} {M : Mem} (h : S2 D E M) (e : Deq E D) : S2 D D M := ⟨h.1, h.2.deq e⟩
theorem stp_al {β : Type} {D : Ds} (hD : DOk D) {M : Mem} (h : S2 D D M) {K : Int32 → Mem → Option β} {Q : β → Prop} (k : ∀ M', S2 D D M' → Tot (K 1 M') Q) : Tot (ob (f_L_alike M) K) Q := by
  refine Tot.ob ((alike_ok hD M h).mono ?_)
  intro ⟨x, M1⟩ ⟨e, c⟩
  have e : x = 1 := e
  rw [e]
  exact k M1 c
theorem stp_ch {β : Type} {D E : Ds} (hD : DOk D) {m : Nat} (hm : m < 2147483648) {M : Mem} (h : S2 D E M) {K : Int32 → Mem → Option β} {Q : β → Prop} (k : ∀ (D1 : Ds) (M' : Mem), Kp D (dP D) D1 → dP D1 = dP D → S2 D1 E M' → Tot (K 1 M') Q) : Tot (ob (f_L_changed (iz (m : Int)) M) K) Q := by
  refine Tot.ob ((changed_ok (M0 := M) hD (fun E hE => beats_ok hE) hm M ⟨h.1, Off.rf⟩).mono ?_)
  intro ⟨x, M1⟩ ⟨e, D1, kp, eP, h1, o1⟩
  have e : x = 1 := e
  have o1 : Off CO M M1 := o1
  rw [e]
  refine k D1 M1 kp eP ⟨h1, h.2.same (fun d hd => ?_)⟩
  show M1 (sgm d) = M (sgm d)
  rw [sgm_hi hd]
  exact o1 _ (by unfold CO; unfold CI at hd ⊢; omega)
theorem law_225 {scr : Nat → Int32} {scl : Nat} {v4 : Int32} {k82 k137 : Int32 → Int32 → Mem → Option (Unit × Mem)} {D : Ds} (hD : DOk D) {j n m : Nat} (hj : j < 12) (hn : n < 2147483648) (hm : m < 2147483648) {M : Mem} (h : S2 D D M) {Q : Unit × Mem → Prop} (k : ∀ M', Two M' → Tot (k137 1 (iz ((j + 1 : Nat) : Int)) M') Q) : Tot (f_L_law_b225 scr scl v4 (iz (j : Int)) (iz (n : Int)) (iz (m : Int)) k82 k137 1 M) Q := by
  have e4 : iz (j : Int) - iz (j : Int) / 4 * 4 = iz ((j % 4 : Nat) : Int) := izm (k := 4) (by omega) (by omega) (by omega)
  unfold f_L_law_b225
  rw [a1z]
  by_cases c : j % 4 = 3
  · rw [if_pos (by rw [e4, c]; rfl), if_neg (by decide)]
    refine stp_p (a_B hD) h (fun M h => ?_)
    refine stp_p (beats_ok hD) h (fun M h => ?_)
    rw [if_neg (by decide)]
    refine stp_p (scripts_ok hD hn rfl) h (fun M h => ?_)
    rw [if_neg (by decide)]
    refine stp_q (a_save hD (s := 0) (by omega) rfl) h (fun M h => ?_)
    rw [if_pos rfl]
    refine stp_ch hD hm h (fun D1 M kp eP h => ?_)
    obtain ⟨k1, k2, k3, k4, k5, k6⟩ := kp
    rw [if_neg (by decide)]
    refine stp_p (a_save k1 (s := 0) (by omega) rfl) h (fun M h => ?_)
    rw [if_pos (show iz (gB (dP D1) : Int) = iz (gB (dP D) : Int) by rw [eP])]
    have o1 := dSav_Ok k1 0
    have o3 := dSav_Ok hD 0
    refine stp_p (a_rest o1 (s := 0) (by omega) rfl rfl) h (fun M h => ?_)
    rw [if_pos (show iz (gB (dS (dSav D1 0) 0) : Int) = iz (gB (dP D) : Int) by show iz (gB (dP D1) : Int) = _; rw [eP])]
    have o2 : DOk (dRes (dSav D1 0) (dS (dSav D1 0) 0)) := dRes_Ok o1 k1.2.2.1
    refine stp_q (a_rest o3 (s := 0) (by omega) rfl rfl) h (fun M h => ?_)
    rw [if_pos (show iz (gB (dS (dSav D 0) 0) : Int) = iz (gB (dP D) : Int) from rfl)]
    refine stp_p (a_undoN o2 (Nat.lt_irrefl 0)) h (fun M h => ?_)
    rw [if_pos rfl]
    have pe : Peq (dP D) (dP D1) := by rw [eP]; exact Peq.rf
    have e : Deq (dRes (dSav D 0) (dS (dSav D 0) 0)) (dRes (dSav D1 0) (dS (dSav D1 0) 0)) := by
      refine ⟨⟨?_, fun i _ => ?_⟩, pe, ⟨rfl, fun j hj => absurd hj (Nat.not_lt_zero j)⟩, fun s hs => ?_⟩
      · show D1.1.1 = D.1.1
        rw [k2]
      · show D1.1.2 i = D.1.2 i
        rw [k2]
      · rcases (show s = 0 ∨ s = 1 by omega) with rfl | rfl
        · exact ⟨rfl, fun _ => pe⟩
        · refine ⟨k5, fun _ => ?_⟩
          show Peq (dS D 1) (dS D1 1)
          rw [k6]
          exact Peq.rf
    refine stp_al o2 (s2_deq h e) (fun M h => ?_)
    rw [if_neg (by decide)]
    exact k M ⟨_, o2, h⟩
  · rw [if_neg (by rw [e4, show (3 : Int32) = iz 3 from rfl, iz_eq (by omega) (by omega) (by omega) (by omega)]; omega)]
    exact k M ⟨D, hD, h⟩
theorem law_137 {scr : Nat → Int32} {scl : Nat} (hl : scl ≤ 260) {t : Nat} (ht : t < 2) {k82 : Int32 → Int32 → Mem → Option (Unit × Mem)} {M : Mem} (h : Two M) {Q : Unit × Mem → Prop} (k : ∀ M', Two M' → Tot (k82 1 (iz ((t + 1 : Nat) : Int)) M') Q) : Tot (lq2 (f_L_law_b137 scr scl (iz (t : Int)) k82) 13 1 (iz ((0 : Nat) : Int)) M) Q := by
  refine up2_tot 12 (fun _ a M' => a = 1 ∧ Two M') ?_ ?_ 13 0 1 M (by omega) ⟨rfl, h⟩ (by omega)
  · intro k137 j a M hj ⟨e, D, hD, h⟩ hK
    subst e
    have e1 : ((50 * iz (t : Int)) + 25) + (2 * iz (j : Int)) = iz ((50 * t + 25 + 2 * j : Nat) : Int) := by
      rw [show (50 : Int32) = iz 50 from rfl, show (25 : Int32) = iz 25 from rfl, show (2 : Int32) = iz 2 from rfl, iz_mul, iz_mul, iz_add, iz_add]
      congr 1
    have e2 : ((50 * iz (t : Int)) + 26) + (2 * iz (j : Int)) = iz ((50 * t + 26 + 2 * j : Nat) : Int) := by
      rw [show (50 : Int32) = iz 50 from rfl, show (26 : Int32) = iz 26 from rfl, show (2 : Int32) = iz 2 from rfl, iz_mul, iz_mul, iz_add, iz_add]
      congr 1
    obtain ⟨n, hn, en⟩ := number_ok (scr := scr) (a := 50 * t + 25 + 2 * j) hl (by omega) M
    obtain ⟨m, hm, em⟩ := number_ok (scr := scr) (a := 50 * t + 26 + 2 * j) hl (by omega) M
    unfold f_L_law_b137
    rw [if_neg (by rw [show (12 : Int32) = iz ((12 : Nat) : Int) from rfl, lez (by omega) (by omega)]; omega), if_neg (by decide), e1, e2, en, ob_some, em, ob_some]
    obtain ⟨v, D', a⟩ := act_ex hD (iz (n : Int)) (iz (m : Int))
    refine stp_p a h (fun M h => ?_)
    refine stp_q a h (fun M h => ?_)
    rw [if_pos rfl]
    refine stp_q (refuses_ok a.1) h (fun M h => ?_)
    rw [if_neg (by decide)]
    refine stp_al a.1 h (fun M h => ?_)
    rw [if_neg (by decide)]
    exact law_225 a.1 hj hn hm h (fun M' h' => hK _ M' ⟨rfl, h'⟩)
  · intro k137 a M ⟨e, h⟩
    subst e
    unfold f_L_law_b137
    rw [if_pos (show (12 : Int32) ≤ iz ((12 : Nat) : Int) from Int32.le_refl _), a1z]
    exact k M h
theorem law_82 {scr : Nat → Int32} {scl : Nat} (hl : scl ≤ 260) {M : Mem} (h : Two M) : Tot (lq2 (f_L_law_b82 scr scl) 3 1 (iz ((0 : Nat) : Int)) M) (fun _ => True) := by
  refine up2_tot 2 (fun _ a M' => a = 1 ∧ Two M') ?_ ?_ 3 0 1 M (by omega) ⟨rfl, h⟩ (by omega)
  · intro k82 t a M ht ⟨e, D, hD, h⟩ hK
    subst e
    have e1 : 50 * iz (t : Int) = iz ((50 * t : Nat) : Int) := by
      rw [show (50 : Int32) = iz 50 from rfl, iz_mul]
      congr 1
    unfold f_L_law_b82
    rw [if_neg (by rw [show (2 : Int32) = iz ((2 : Nat) : Int) from rfl, lez (by omega) (by omega)]; omega), if_neg (by decide), e1]
    refine Tot.ob ((told_ok (scr := scr) (a := 50 * t) hl (by omega) hD h).mono ?_)
    intro ⟨x, M1⟩ ⟨e, D1, hD1, h1⟩
    have e : x = 1 := e
    have h1 : S2 D1 D1 M1 := h1
    subst e
    show Tot (if (1 : Int32) = 0 then _ else _) _
    rw [if_neg (by decide)]
    refine stp_q (refuses_ok hD1) h1 (fun M h => ?_)
    rw [if_neg (by decide)]
    refine stp_al hD1 h (fun M h => ?_)
    rw [if_neg (by decide)]
    refine stp_p (beats_ok hD1) h (fun M h => ?_)
    rw [if_neg (by decide)]
    unfold f_L_law_b133
    exact law_137 hl ht ⟨D1, hD1, h⟩ (fun M' h' => hK _ M' ⟨rfl, h'⟩)
  · intro k82 a M ⟨e, h⟩
    subst e
    unfold f_L_law_b82
    rw [if_pos (show (2 : Int32) ≤ iz ((2 : Nat) : Int) from Int32.le_refl _), if_pos rfl]
    exact Tot.mk trivial
def D0 : Ds := ((0, fun _ => 0), P0, (0, fun _ => P0), (fun _ => false, fun _ => P0))
theorem P0_ok : PgOk P0 := by
  refine ⟨⟨⟨⟨by decide, by decide⟩, ⟨by decide, by decide⟩⟩, ⟨⟨by decide, by decide⟩, ⟨by decide, by decide⟩, ⟨by decide, by decide⟩, ⟨by decide, by decide⟩, ⟨by decide, by decide⟩, ⟨by decide, by decide⟩⟩, fun s b _ _ => Or.inl rfl⟩, fun s b _ _ e => absurd (show (-9 : Int) = 99 from e) (by decide)⟩
theorem D0_ok : DOk D0 := ⟨by decide, fun i hi => absurd hi (Nat.not_lt_zero i), P0_ok, by decide, fun j hj => absurd hj (Nat.not_lt_zero j), fun s _ e => absurd (show false = true from e) (by decide)⟩
theorem P0_sp (s : Nat) : sp P0 0 s = -9 := by
  unfold sp
  by_cases c : s < gS P0
  · rw [if_pos c]; rfl
  · rw [if_neg c]
theorem P0_nn : nn P0 0 = 0 := by
  have hb : 0 < gB P0 := by decide
  have e := nf_lb P0_ok hb (Nat.le_refl (nn P0 0))
  have f : ∀ s, lb P0 0 (nn P0 0) s = false := fun s => by
    by_cases z : lb P0 0 (nn P0 0) s = true
    · have r := ((lb_iff P0_ok hb).mp z).2
      rw [(rho_none 0 s).mpr (P0_sp s)] at r
      exact absurd r (by decide)
    · simpa using z
  unfold nf at e
  rw [f 0, f 1, f 2, f 3, f 4] at e
  have : b01 false = 0 := rfl
  omega
theorem P0_costs : nWhole P0 0 = 0 := by
  have hb : 0 < gB P0 := by decide
  have hq := sq_in P0_ok hb
  have e0 : sq P0 0 = 0 := by have := P0_nn; omega
  have ew : ∀ h, wd P0 0 h (sq P0 0) = 0 := fun h => by
    unfold wd widP
    rw [e0, P0_nn, if_neg (Nat.lt_irrefl 0)]
    split <;> rfl
  have er : ∀ h, h < 2 → ¬ ro P0 0 h (sq P0 0) := fun h hh => by
    unfold ro
    rw [ew h]
    rcases (show h = 0 ∨ h = 1 by omega) with rfl | rfl <;> decide
  have ec : ∀ s, cutB P0 0 (bef P0 0) (sq P0 0) s = false := fun s => by
    by_cases z : cutB P0 0 (bef P0 0) (sq P0 0) s = true
    · have := (cut_of P0_ok hb z).1.2
      exact absurd (show (-9 : Int) = 99 from this) (by decide)
    · simpa using z
  have em : ∀ h, mv P0 0 (bef P0 0) h (sq P0 0) = 0 := fun h => by
    unfold mv
    rw [if_pos (by unfold psB; rw [if_pos rfl])]
  show 0 + (10 * nf (cutB P0 0 (bef P0 0) (sq P0 0)) + 5 * nro P0 0 (sq P0 0) + mv P0 0 (bef P0 0) 0 (sq P0 0) + mv P0 0 (bef P0 0) 1 (sq P0 0)) = 0
  have en : nf (cutB P0 0 (bef P0 0) (sq P0 0)) = 0 := by
    unfold nf
    rw [ec 0, ec 1, ec 2, ec 3, ec 4]
    rfl
  have eo : nro P0 0 (sq P0 0) = 0 := by
    unfold nro
    rw [if_neg (er 0 (by omega)), if_neg (er 1 (by omega))]
    rfl
  rw [en, eo, em 0, em 1]
  rfl
theorem law_ok {scr : Nat → Int32} {scl : Nat} (hl : scl ≤ 260) {M : Mem} (h : S2 D0 D0 M) : ∃ M', f_L_law16 scr scl M = some ((), M') := by
  have key : Tot (f_L_law16 scr scl M) (fun _ => True) := by
    unfold f_L_law16
    refine stp_p (a_err D0_ok) h (fun M h => ?_)
    rw [if_pos (show iz (rdE D0.1) = 0 by rw [show rdE D0.1 = 0 by unfold rdE; rw [if_pos (by decide)]]; rfl)]
    refine stp_p (a_S D0_ok) h (fun M h => ?_)
    rw [if_pos (show iz ((gS (dP D0) : Nat) : Int) = 1 from rfl)]
    refine stp_p (a_whole D0_ok (w := 0) (by omega) rfl) h (fun M h => ?_)
    rw [if_pos (show iz (nWhole (dP D0) 0) = 0 by rw [show nWhole (dP D0) 0 = 0 from P0_costs]; rfl)]
    refine stp_p (a_undoN D0_ok (Nat.lt_irrefl 0)) h (fun M h => ?_)
    rw [if_pos rfl]
    refine stp_q (refuses_ok D0_ok) h (fun M h => ?_)
    rw [if_neg (by decide)]
    refine stp_al D0_ok h (fun M h => ?_)
    rw [if_neg (by decide)]
    refine stp_p (beats_ok D0_ok) h (fun M h => ?_)
    rw [if_neg (by decide)]
    unfold f_L_law_b78
    exact law_82 hl ⟨D0, D0_ok, h⟩
  obtain ⟨⟨u, M'⟩, e, -⟩ := key
  exact ⟨M', e⟩
