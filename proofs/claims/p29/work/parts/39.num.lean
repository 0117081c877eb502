/-! NUMBERS OF A REDUCTION -/
noncomputable def cutH (P : Pg) (b : Nat) : Nat → Bool := cutB P b (bef P b) (sq P b)
noncomputable def nNote (P : Pg) (s b what : Nat) : Int := if rho P b s = -9 ∨ what = 1 then rho P b s else if what = 3 then b01 (cutH P b s) else if rho P b s ≠ 0 then -9 else if what = 2 then (if hd P b s ∧ cutH P b s = false then 0 else 1) else (if lb P b (sq P b) s = true then 0 else 1)
noncomputable def nHand (P : Pg) (h b what : Nat) : Int := if what = 0 then (if h = 0 then (sq P b : Int) else nn P b - sq P b) else if what = 1 then ps P b h (sq P b) else if what = 2 then wd P b h (sq P b) else if what = 3 then (if ro P b h (sq P b) then 1 else 0) else mv P b (bef P b) h (sq P b)
noncomputable def nBeat (P : Pg) (b what : Nat) : Int32 := if what = 0 then iz (sq P b) else if what = 1 then iz (nf (fun k => decide (pkk P b k))) else if what = 2 then iz (co P b (bef P b) (sq P b)) else if what = 3 then iz (nn P b) else pkm P b (rho P b)
noncomputable def cntR (P : Pg) (b what n : Nat) : Int := sg (fun s => if rho P b s = what then 1 else 0) n
noncomputable def shW (P : Pg) (b what : Nat) : Int := if what = 0 then co P b (bef P b) (sq P b) else if what = 4 then nf (cutH P b) else if what = 5 then nro P b (sq P b) else if what = 6 then mv P b (bef P b) 0 (sq P b) + mv P b (bef P b) 1 (sq P b) else if what = 7 then nn P b - nf (fun s => (decide (hd P b s) && lb P b (nn P b) s) && !cutH P b s) else cntR P b what 4
noncomputable def nWhole (P : Pg) (what : Nat) : Int := sg (fun b => shW P b what) (gB P)
section NUM
variable {M : Mem} {P : Pg} {b : Nat}
theorem rd_at (h : RD M P) (hP : PgW P) (hb : b < gB P) : f_X2_chordAt (iz b) M = some (b, M) ∧ f_X2_splitAt (iz b) M = some (iz (sq P b), M) ∧ f_X2_chordAt (iz b - 1) M = some (ixB b, M) ∧ f_X2_splitAt (iz b - 1) M = some (iz (bef P b), M) := by
  have e : iz (b : Int) - 1 = iz ((b : Int) - 1) := by rw [show (1 : Int32) = iz 1 from rfl, iz_sub]
  rw [e]
  exact ⟨chordAt_in h.1.1 hP.1 hb, splitAt_in h hP.1 hb, chordAt_before h.1.1 hP.1 hb, splitAt_eq h.1.1 hP.1 h.2 (Nat.le_refl _) (by omega)⟩
theorem ixB_lt (hP : PgD P) (hb : b < gB P) : ixB b < 17 := by
  have := hP.2
  unfold ixB
  split <;> omega
theorem x2cut_eq (h : RD M P) (hP : PgW P) (hb : b < gB P) : f_X2_cutStaves (iz b) M = some (mf (cutH P b), M) := by
  unfold f_X2_cutStaves
  have h2 := hP.1.2
  obtain ⟨a1, a2, a3, a4⟩ := rd_at h hP hb
  rw [a1, ob_some, if_pos (by omega), a2, ob_some, a3, ob_some, if_pos (ixB_lt hP.1 hb), a4, ob_some, cutStaves_eq h.1 hP.1 hb (sq_ok h.1 hP.2.1 b hb).2.1 (bef_ok h.1 hP.2.1 hb), ob_some]
  rfl
theorem x2move_eq (h : RD M P) (hP : PgW P) (hb : b < gB P) {hh : Nat} (hh2 : hh < 2) : f_X2_move (iz hh) (iz b) M = some (iz (mv P b (bef P b) hh (sq P b)), M) := by
  unfold f_X2_move
  have h2 := hP.1.2
  obtain ⟨a1, a2, a3, a4⟩ := rd_at h hP hb
  rw [a1, ob_some, if_pos (by omega), a2, ob_some, a3, ob_some, if_pos (ixB_lt hP.1 hb), a4, ob_some, cmove_eq h.1 hP hb hh2 (sq_ok h.1 hP.2.1 b hb).2.1 (bef_ok h.1 hP.2.1 hb), ob_some]
theorem x2costs_eq (h : RD M P) (hP : PgW P) (hb : b < gB P) : f_X2_costs (iz b) M = some (iz (co P b (bef P b) (sq P b)), M) := by
  unfold f_X2_costs
  have h2 := hP.1.2
  obtain ⟨a1, a2, a3, a4⟩ := rd_at h hP hb
  rw [a1, ob_some, if_pos (by omega), a2, ob_some, a3, ob_some, if_pos (ixB_lt hP.1 hb), a4, ob_some, ccosts_eq h.1 hP hb (sq_ok h.1 hP.2.1 b hb).2.1 (bef_ok h.1 hP.2.1 hb), ob_some]
theorem rho_rng (P : Pg) (b s : Nat) : -9 ≤ rho P b s ∧ rho P b s ≤ 3 := by
  have := drp_rng P b (tF P b) s
  unfold rho
  omega
theorem countLeftOut_eq (h : CF M b P b) (w : Nat) (hw : w < 100) : f_X0_countLeftOut b (iz w) M = some (iz (cntR P b w 4), M) := by
  unfold f_X0_countLeftOut
  refine Tot.eq ?_
  rw [show (0 : Int32) = iz ((0 : Nat) : Int) from rfl]
  refine up2_tot 4 (fun s v M' => M' = M ∧ v = iz (cntR P b w s)) ?_ ?_ 9999 0 _ M (by omega) ⟨rfl, rfl⟩ (by omega)
  · intro K s v M' hs ⟨e1, e2⟩ hK
    subst e1 e2
    unfold f_X0_countLeftOut_b4
    have hr := rho_rng P b s
    have l4 : ¬ ((4 : Int32) ≤ iz (s : Int)) := by rw [show (4 : Int32) = iz ((4 : Nat) : Int) from rfl, lez (by omega) (by omega)]; omega
    have ee : (iz (rho P b s) = iz (w : Int)) = (rho P b s = w) := iz_eq (by omega) (by omega) (by omega) (by omega)
    rw [if_neg l4, if_pos (inb_n (n := s) (by omega) (by omega)), cl_n (n := s) (by omega), h.1.2.1 s hs, a1z]
    by_cases c : rho P b s = w
    · rw [if_pos (by rw [ee]; exact c), show (1 : Int32) = iz 1 from rfl, iz_add]
      refine hK _ _ ⟨rfl, ?_⟩
      unfold cntR
      rw [sg, if_pos c]
    · rw [if_neg (by rw [ee]; exact c)]
      refine hK _ _ ⟨rfl, ?_⟩
      unfold cntR
      rw [sg, if_neg c, Int.add_zero]
  · intro K v M' ⟨e1, e2⟩
    subst e1 e2
    unfold f_X0_countLeftOut_b4
    rw [if_pos (by decide)]
    exact Tot.mk rfl
theorem bitz (f : Nat → Bool) {s : Nat} (hs : s < 5) {α : Type} (x y : α) : (if ((mf f >>> (iz s &&& 31)) &&& 1) = 1 then x else y) = if f s = true then x else y := by
  have e := mf_bit f hs
  by_cases c : f s = true
  · rw [if_pos (by rw [e]; exact c), if_pos c]
  · rw [if_neg (by rw [e]; exact c), if_neg c]
theorem eqz {a : Int} {n : Nat} (a1 : -2147483648 ≤ a) (a2 : a < 2147483648) (hn : n < 2147483648) {α : Type} (x y : α) : (if iz a = OfNat.ofNat n then x else y) = if a = n then x else y := by
  have e : (iz a = (OfNat.ofNat n : Int32)) = (a = n) := by
    rw [show (OfNat.ofNat n : Int32) = iz (n : Int) from iz_lit n, iz_eq a1 a2 (by omega) (by omega)]
  by_cases c : a = n
  · rw [if_pos (by rw [e]; exact c), if_pos c]
  · rw [if_neg (by rw [e]; exact c), if_neg c]
theorem numberOfNote_eq (h : RD M P) (hP : PgW P) (hb : b < gB P) {s what : Nat} (hs : s < gS P) (hw : what < 4) : f_X2_numberOfNote (iz s) (iz b) (iz what) M = some (iz (nNote P s b what), M) := by
  unfold f_X2_numberOfNote nNote
  have h1 := hP.1.1
  have h2 := hP.1.2
  have hF := h.1.2.1 b hb
  have hr := rho_rng P b s
  obtain ⟨a1, a2, a3, a4⟩ := rd_at h hP hb
  have e9 : (iz (rho P b s) = -9) = (rho P b s = -9) := by rw [show (-9 : Int32) = iz (-9) from rfl, iz_eq (by omega) (by omega) (by omega) (by omega)]
  have ew : ∀ n : Nat, n < 100 → (iz (what : Int) = iz (n : Int)) = (what = n) := fun n hn => by
    rw [iz_eq (by omega) (by omega) (by omega) (by omega)]
    exact propext ⟨fun z => by omega, fun z => by omega⟩
  have ew1 : (iz (what : Int) = 1) = (what = 1) := ew 1 (by omega)
  have ew2 : (iz (what : Int) = 2) = (what = 2) := ew 2 (by omega)
  have ew3 : (iz (what : Int) = 3) = (what = 3) := ew 3 (by omega)
  have er0 : (iz (rho P b s) = 0) = (rho P b s = 0) := by rw [show (0 : Int32) = iz 0 from rfl, iz_eq (by omega) (by omega) (by omega) (by omega)]
  rw [a1, ob_some, if_pos (by omega), if_pos (inb_n (n := s) (by omega) (by omega)), cl_n (n := s) (by omega), hF.1.2.1 s (by omega)]
  by_cases c9 : rho P b s = -9
  · rw [if_pos (by rw [e9]; exact c9), if_pos (Or.inl c9)]
  · rw [if_neg (by rw [e9]; exact c9)]
    by_cases c1 : what = 1
    · rw [if_pos (by rw [ew1]; exact c1), if_pos (Or.inr c1)]
    · rw [if_neg (by rw [ew1]; exact c1), if_neg (by omega), x2cut_eq h hP hb, ob_some, bitz _ (by omega)]
      have fin : ∀ v : Int32, v = iz (b01 (cutH P b s)) → f_X2_numberOfNote_b49 (iz s) (iz b) (iz what) b (iz (rho P b s)) v M = some (iz (if what = 3 then b01 (cutH P b s) else if rho P b s ≠ 0 then -9 else if what = 2 then (if hd P b s ∧ cutH P b s = false then 0 else 1) else (if lb P b (sq P b) s = true then 0 else 1)), M) := fun v hv => by
        subst hv
        unfold f_X2_numberOfNote_b49
        by_cases c3 : what = 3
        · rw [if_pos (by rw [ew3]; exact c3), if_pos c3]
          cases cutH P b s <;> rfl
        · rw [if_neg (by rw [ew3]; exact c3), if_neg c3]
          by_cases c0 : rho P b s = 0
          · rw [if_pos (by rw [er0]; exact c0), if_neg (show ¬ (rho P b s ≠ 0) from fun z => z c0)]
            by_cases c2 : what = 2
            · rw [if_pos (by rw [ew2]; exact c2), if_pos c2, hF.1.2.2.2, bitz _ (by omega)]
              unfold f_X2_numberOfNote_b98
              by_cases ch : hd P b s
              · rw [if_pos (decide_eq_true ch)]
                rw [if_neg (show ¬ ((1 : Int32) = 0) by decide)]
                cases hc : cutH P b s
                · rw [if_pos (show iz (b01 false) = (0 : Int32) from rfl), if_pos (show hd P b s ∧ false = false from ⟨ch, rfl⟩)]; rfl
                · rw [if_neg (show ¬ (iz (b01 true) = (0 : Int32)) by decide), if_neg (show ¬ (hd P b s ∧ true = false) from fun z => Bool.noConfusion z.2)]; rfl
              · rw [if_neg (fun z => ch (of_decide_eq_true z)), if_pos (rfl : (0 : Int32) = 0), if_neg (show ¬ (hd P b s ∧ cutH P b s = false) from fun z => ch z.1)]; rfl
            · rw [if_neg (by rw [ew2]; exact c2), if_neg c2, a2, ob_some]
              have hsq := sq_ok h.1 hP.2.1 b hb
              have hst : f_X0_stavesOf b 0 (iz (sq P b)) M = some (mf (lb P b (sq P b)), M) := by
                unfold f_X0_stavesOf
                rw [if_pos rfl, if_pos (inb_n hsq.1 (by omega)), cl_n (n := sq P b) (by omega), cf_left hF hsq.2.1]
              rw [hst, ob_some, bitz _ (by omega)]
              by_cases cl : lb P b (sq P b) s = true
              · rw [if_pos cl, if_pos cl]; rfl
              · rw [if_neg cl, if_neg cl]; rfl
          · rw [if_neg (by rw [er0]; exact c0), if_pos c0]; rfl
      cases hc : cutH P b s
      · rw [if_neg (by simp)]
        rw [hc] at fin
        exact fin 0 rfl
      · rw [if_pos rfl]
        rw [hc] at fin
        exact fin 1 rfl
theorem numberOfHand_eq (h : RD M P) (hP : PgW P) (hb : b < gB P) {hh what : Nat} (h2 : hh < 2) (hw : what < 5) : f_X2_numberOfHand (iz hh) (iz b) (iz what) M = some (iz (nHand P hh b what), M) := by
  unfold f_X2_numberOfHand nHand
  have h2' := hP.1.2
  have hF := h.1.2.1 b hb
  obtain ⟨a1, a2, a3, a4⟩ := rd_at h hP hb
  have hsq := sq_ok h.1 hP.2.1 b hb
  have ew : ∀ n : Nat, n < 100 → (iz (what : Int) = iz (n : Int)) = (what = n) := fun n hn => by
    rw [iz_eq (by omega) (by omega) (by omega) (by omega)]
    exact propext ⟨fun z => by omega, fun z => by omega⟩
  have ew0 : (iz (what : Int) = 0) = (what = 0) := ew 0 (by omega)
  have ew1 : (iz (what : Int) = 1) = (what = 1) := ew 1 (by omega)
  have ew2 : (iz (what : Int) = 2) = (what = 2) := ew 2 (by omega)
  have ew3 : (iz (what : Int) = 3) = (what = 3) := ew 3 (by omega)
  have n4 := nn4 hF
  rw [a1, ob_some, if_pos (by omega), a2, ob_some]
  by_cases c0 : what = 0
  · rw [if_pos (by rw [ew0]; exact c0), if_pos c0]
    unfold f_X0_countOf
    rcases (show hh = 0 ∨ hh = 1 by omega) with rfl | rfl
    · rw [if_pos (show iz ((0 : Nat) : Int) = (0 : Int32) from rfl), if_pos (rfl : (0 : Nat) = 0), ob_some]
    · rw [if_neg (by decide), if_neg (show ¬ (1 : Nat) = 0 by omega), cf_size hF, iz_sub, ob_some]
  · rw [if_neg (by rw [ew0]; exact c0), if_neg c0]
    by_cases c1 : what = 1
    · rw [if_pos (by rw [ew1]; exact c1), if_pos c1, if_pos (inb_n (n := hh) (by omega) (by omega)), if_pos (inb_n hsq.1 (by omega)), cl_n (n := hh) (by omega), cl_n (n := sq P b) (by omega), cf_pos hF h2 hsq.2.1]
    · rw [if_neg (by rw [ew1]; exact c1), if_neg c1]
      by_cases c2 : what = 2
      · rw [if_pos (by rw [ew2]; exact c2), if_pos c2, if_pos (inb_n (n := hh) (by omega) (by omega)), if_pos (inb_n hsq.1 (by omega)), cl_n (n := hh) (by omega), cl_n (n := sq P b) (by omega), cf_wid hF h2 hsq.2.1]
      · rw [if_neg (by rw [ew2]; exact c2), if_neg c2]
        by_cases c3 : what = 3
        · rw [if_pos (by rw [ew3]; exact c3), if_pos c3, isRolled_eq hF hP hb h2 hsq.2.1, ob_some]
          by_cases c : ro P b hh (sq P b)
          · rw [if_neg (by rw [bz_t c]; decide), if_pos c]; rfl
          · rw [if_pos (by rw [bz_f c]; rfl), if_neg c]; rfl
        · rw [if_neg (by rw [ew3]; exact c3), if_neg c3, x2move_eq h hP hb h2, ob_some]
theorem numberOfBeat_eq (h : RD M P) (hP : PgW P) (hb : b < gB P) {what : Nat} (hw : what < 5) : f_X2_numberOfBeat (iz b) (iz what) M = some (nBeat P b what, M) := by
  unfold f_X2_numberOfBeat nBeat
  have h2' := hP.1.2
  have hF := h.1.2.1 b hb
  obtain ⟨a1, a2, a3, a4⟩ := rd_at h hP hb
  have ew : ∀ n : Nat, n < 100 → (iz (what : Int) = iz (n : Int)) = (what = n) := fun n hn => by
    rw [iz_eq (by omega) (by omega) (by omega) (by omega)]
    exact propext ⟨fun z => by omega, fun z => by omega⟩
  have ew0 : (iz (what : Int) = 0) = (what = 0) := ew 0 (by omega)
  have ew1 : (iz (what : Int) = 1) = (what = 1) := ew 1 (by omega)
  have ew2 : (iz (what : Int) = 2) = (what = 2) := ew 2 (by omega)
  have ew3 : (iz (what : Int) = 3) = (what = 3) := ew 3 (by omega)
  have h10 : M (iCh b) 10 = mf (fun k => decide (pkk P b k)) := hF.2.2.2.1
  rw [a1, ob_some, if_pos (by omega)]
  by_cases c0 : what = 0
  · rw [if_pos (by rw [ew0]; exact c0), if_pos c0, a2, ob_some]
  · rw [if_neg (by rw [ew0]; exact c0), if_neg c0]
    by_cases c1 : what = 1
    · rw [if_pos (by rw [ew1]; exact c1), if_pos c1, h10, bitCount_eq, ob_some]
    · rw [if_neg (by rw [ew1]; exact c1), if_neg c1]
      by_cases c2 : what = 2
      · rw [if_pos (by rw [ew2]; exact c2), if_pos c2, x2costs_eq h hP hb, ob_some]
      · rw [if_neg (by rw [ew2]; exact c2), if_neg c2]
        by_cases c3 : what = 3
        · rw [if_pos (by rw [ew3]; exact c3), if_pos c3, cf_size hF]
        · rw [if_neg (by rw [ew3]; exact c3), if_neg c3, h10]
          rfl
theorem shareOfBeat_eq (h : RD M P) (hP : PgW P) (hb : b < gB P) {what : Nat} (hw : what < 8) : f_X2_shareOfBeat (iz b) (iz what) M = some (iz (shW P b what), M) := by
  unfold f_X2_shareOfBeat f_X2_shareOfBeat_b112 shW
  have h2' := hP.1.2
  have hF := h.1.2.1 b hb
  obtain ⟨a1, a2, a3, a4⟩ := rd_at h hP hb
  have hsq := sq_ok h.1 hP.2.1 b hb
  have ew : ∀ n : Nat, n < 100 → (iz (what : Int) = iz (n : Int)) = (what = n) := fun n hn => by
    rw [iz_eq (by omega) (by omega) (by omega) (by omega)]
    exact propext ⟨fun z => by omega, fun z => by omega⟩
  have ew0 : (iz (what : Int) = 0) = (what = 0) := ew 0 (by omega)
  have ew1 : (iz (what : Int) = 1) = (what = 1) := ew 1 (by omega)
  have ew2 : (iz (what : Int) = 2) = (what = 2) := ew 2 (by omega)
  have ew3 : (iz (what : Int) = 3) = (what = 3) := ew 3 (by omega)
  have ew4 : (iz (what : Int) = 4) = (what = 4) := ew 4 (by omega)
  have ew5 : (iz (what : Int) = 5) = (what = 5) := ew 5 (by omega)
  have ew6 : (iz (what : Int) = 6) = (what = 6) := ew 6 (by omega)
  have ew7 : (iz (what : Int) = 7) = (what = 7) := ew 7 (by omega)
  have m0 : f_X2_move 0 (iz b) M = some (iz (mv P b (bef P b) 0 (sq P b)), M) := x2move_eq h hP hb (hh := 0) (by omega)
  have m1 : f_X2_move 1 (iz b) M = some (iz (mv P b (bef P b) 1 (sq P b)), M) := x2move_eq h hP hb (hh := 1) (by omega)
  have h7 : M (iCh b) 7 = mf (fun s => decide (hd P b s) && lb P b (nn P b) s) := hF.2.2.1
  rw [a1, ob_some, if_pos (by omega)]
  by_cases c0 : what = 0
  · rw [if_pos (by rw [ew0]; exact c0), if_pos c0, x2costs_eq h hP hb, ob_some]
  · rw [if_neg (by rw [ew0]; exact c0), if_neg c0]
    have cl := countLeftOut_eq hF what (by omega)
    by_cases c1 : what = 1
    · rw [if_pos (by rw [ew1]; exact c1), if_neg (by omega), if_neg (by omega), if_neg (by omega), if_neg (by omega), cl, ob_some]
    · rw [if_neg (by rw [ew1]; exact c1)]
      by_cases c2 : what = 2
      · rw [if_pos (by rw [ew2]; exact c2), if_neg (by omega), if_neg (by omega), if_neg (by omega), if_neg (by omega), cl, ob_some]
      · rw [if_neg (by rw [ew2]; exact c2)]
        by_cases c3 : what = 3
        · rw [if_pos (by rw [ew3]; exact c3), if_neg (by omega), if_neg (by omega), if_neg (by omega), if_neg (by omega), cl, ob_some]
        · rw [if_neg (by rw [ew3]; exact c3)]
          by_cases c4 : what = 4
          · rw [if_pos (by rw [ew4]; exact c4), if_pos c4, x2cut_eq h hP hb, ob_some, bitCount_eq, ob_some]
          · rw [if_neg (by rw [ew4]; exact c4), if_neg c4]
            by_cases c5 : what = 5
            · rw [if_pos (by rw [ew5]; exact c5), if_pos c5, a2, ob_some, countRolled_eq hF hP hb hsq.2.1, ob_some]
            · rw [if_neg (by rw [ew5]; exact c5), if_neg c5]
              by_cases c6 : what = 6
              · rw [if_pos (by rw [ew6]; exact c6), if_pos c6, m0, ob_some, m1, ob_some, iz_add]
              · rw [if_neg (by rw [ew6]; exact c6), if_neg c6, if_pos (by rw [ew7]; omega), if_pos (by omega), x2cut_eq h hP hb, ob_some, h7, mf_andn, bitCount_eq, ob_some, cf_size hF, iz_sub]
theorem numberOfWhole_eq (h : RD M P) (hP : PgW P) {what : Nat} (hw : what < 8) : f_X2_numberOfWhole (iz what) M = some (iz (nWhole P what), M) := by
  unfold f_X2_numberOfWhole
  have h2 := hP.1.2
  refine Tot.eq ?_
  rw [show (0 : Int32) = iz ((0 : Nat) : Int) from rfl]
  refine up2_tot (gB P) (fun i v M' => M' = M ∧ v = iz (sg (fun b => shW P b what) i)) ?_ ?_ 9999 0 _ M (by omega) ⟨rfl, rfl⟩ (by omega)
  · intro K i v M' hi ⟨e1, e2⟩ hK
    subst e1 e2
    unfold f_X2_numberOfWhole_b4
    rw [h.1.1, if_neg (by rw [iz_le (by omega) (by omega) (by omega) (by omega)]; omega), shareOfBeat_eq h hP hi hw, ob_some, a1z, iz_add]
    exact hK _ _ ⟨rfl, rfl⟩
  · intro K v M' ⟨e1, e2⟩
    subst e1 e2
    unfold f_X2_numberOfWhole_b4
    rw [h.1.1, if_pos (Int32.le_refl _)]
    exact Tot.mk rfl
end NUM
