section MW
variable {M : Mem} {r b : Nat} {P : Pg}
theorem wz {w : Nat} (hw : w < 8) (n : Nat) (hn : n < 100) : (iz (w : Int) = iz (n : Int)) = (w = n) := by
  rw [iz_eq (by omega) (by omega) (by omega) (by omega)]
  exact propext ⟨fun z => by omega, fun z => by omega⟩
theorem before_eq (h : LD M P) (hP : PgD P) (hb : b < gB P) : f_X6_before (iz b) M = some (iz (bef P b), M) := by
  unfold f_X6_before bef
  have h2 := hP.2
  by_cases e : b = 0
  · rw [if_pos (by rw [e]; rfl), if_pos e]; rfl
  · have e0 : ¬ (iz (b : Int) = 0) := by rw [show (0 : Int32) = iz 0 from rfl, iz_eq (by omega) (by omega) (by omega) (by omega)]; omega
    rw [if_neg e0, if_neg e, show iz (b : Int) - 1 = iz ((b - 1 : Nat) : Int) by
      rw [show (1 : Int32) = iz 1 from rfl, iz_sub]
      congr 1
      omega]
    rw [if_pos (inb_n (n := b - 1) (by omega) (by omega)), cl_n (n := b - 1) (by omega), h.2 (b - 1) (by omega)]
theorem isCutHere_eq (h : PR M r 0 P) (hL : LD M P) (hP : PgOk P) (hl : lnA r = 72) (hb : b < gB P) {s : Nat} (hs : s < gS P) : f_X6_isCutHere r (iz s) (iz b) M = some (bz (cutH P b s = true), M) := by
  unfold f_X6_isCutHere
  have h2 := hP.1.1.2
  by_cases e : b = 0
  · rw [if_pos (by rw [e]; decide), bz_f]
    · rfl
    · unfold cutH cutB
      intro z
      rw [Bool.and_eq_true, Bool.and_eq_true] at z
      have := of_decide_eq_true z.1.1
      have := (hP.2 s b hs hb this.2).1
      omega
  · have e0 : ¬ (iz (b : Int) ≤ 0) := by rw [show (0 : Int32) = iz ((0 : Nat) : Int) from rfl, lez (by omega) (by omega)]; omega
    rw [if_neg e0, before_eq hL hP.1.1 hb, ob_some, if_pos (inb_n (n := b) (by omega) (by omega)), cl_n (n := b) (by omega), hL.2 b hb, isCut_eq h hL.1 hP hl hb hs (msq_ok hL.1 hP.1.2.1 b hb) (mbef_ok hL.1 hP.1.2.1 hb), ob_some]
    unfold cutH
    by_cases c : cutB P b (bef P b) (sq P b) s = true
    · rw [if_neg (by rw [bz_t c]; decide), bz_t c]; rfl
    · rw [if_pos (by rw [bz_f c]; rfl), bz_f c]; rfl
theorem wb227 (h : PR M r 0 P) (hL : LD M P) (hP : PgOk P) (hl : lnA r = 72) (hb : b < gB P) {s w : Nat} (hs : s < gS P) (hw : w < 8) (k10 k134 : Int32 → Int32 → Mem → Option (Int32 × Mem)) (v : Int) :
    f_X6_wholeOf_b227 r (iz w) (iz b) (iz s) (bz (sp P b s ≠ -9)) (bz (cutH P b s = true)) k10 k134 (iz v) M = k134 (iz (v + (if w = 7 ∧ sp P b s ≠ -9 ∧ mr (rho P b) s = 0 ∧ (cutH P b s = true ∨ ¬ hd P b s) then 1 else 0))) (iz ((s + 1 : Nat) : Int)) M := by
  unfold f_X6_wholeOf_b227 f_X6_wholeOf_b270 f_X6_wholeOf_b274
  have hx := pg_lt hP.1.1 hs hb
  have hB := (hL.1 b hb).1
  have hro := rho_rng P b s
  have em : -9 ≤ mr (rho P b) s ∧ mr (rho P b) s ≤ 3 := by unfold mr; split <;> omega
  have e7 : (iz (w : Int) = 7) = (w = 7) := wz hw 7 (by omega)
  have er : (iz (mr (rho P b) s) = 0) = (mr (rho P b) s = 0) := by rw [show (0 : Int32) = iz 0 from rfl, iz_eq (by omega) (by omega) (by omega) (by omega)]
  rw [a1z, show (1 : Int32) = iz 1 from rfl, iz_add]
  have no : iz v + 0 = iz (v + 0) := by rw [show (0 : Int32) = iz 0 from rfl, iz_add]
  rw [no]
  by_cases c7 : w = 7
  · rw [if_pos (by rw [e7]; exact c7)]
    by_cases c9 : sp P b s = -9
    · rw [if_pos (show bz (sp P b s ≠ -9) = 0 from bz_f (fun z => z c9)), if_neg (fun z => z.2.1 c9)]
    · rw [if_neg (show ¬ (bz (sp P b s ≠ -9) = 0) by rw [bz_t c9]; decide), at_eq, ob_some, if_pos (inb_n hx (by omega)), cl_n (n := 16 * s + b) (by omega), hB.2 s hs]
      by_cases cr : mr (rho P b) s = 0
      · rw [if_pos (by rw [er]; exact cr)]
        by_cases cc : cutH P b s = true
        · rw [if_neg (show ¬ (bz (cutH P b s = true) = 0) by rw [bz_t cc]; decide), if_pos ⟨c7, c9, cr, Or.inl cc⟩]
        · rw [if_pos (show bz (cutH P b s = true) = 0 from bz_f cc), isHeld_eq h hP.1 hl hs hb, ob_some]
          by_cases ch : hd P b s
          · rw [if_neg (show ¬ (bz (hd P b s) = 0) by rw [bz_t ch]; decide), if_neg]
            intro z
            rcases z.2.2.2 with y | y
            · exact cc y
            · exact y ch
          · rw [if_pos (show bz (hd P b s) = 0 from bz_f ch), if_pos ⟨c7, c9, cr, Or.inr ch⟩]
      · rw [if_neg (by rw [er]; exact cr), if_neg (fun z => cr z.2.2.1)]
  · rw [if_neg (by rw [e7]; exact c7), if_neg (fun z => c7 z.1)]
theorem wb214 (h : PR M r 0 P) (hL : LD M P) (hP : PgOk P) (hl : lnA r = 72) (hb : b < gB P) {s w : Nat} (hs : s < gS P) (hw : w < 8) (k10 k134 : Int32 → Int32 → Mem → Option (Int32 × Mem)) (v a : Int) :
    f_X6_wholeOf_b214 r (iz w) (iz b) (iz s) (bz (sp P b s ≠ -9)) (bz (cutH P b s = true)) k10 k134 (iz a) (iz v) M = k134 (iz (v + a + (if (w = 4 ∧ cutH P b s = true) ∨ (w = 7 ∧ sp P b s ≠ -9 ∧ mr (rho P b) s = 0 ∧ (cutH P b s = true ∨ ¬ hd P b s)) then 1 else 0))) (iz ((s + 1 : Nat) : Int)) M := by
  unfold f_X6_wholeOf_b214
  have e4 : (iz (w : Int) = 4) = (w = 4) := wz hw 4 (by omega)
  have rest : ¬ (w = 4 ∧ cutH P b s = true) → f_X6_wholeOf_b227 r (iz w) (iz b) (iz s) (bz (sp P b s ≠ -9)) (bz (cutH P b s = true)) k10 k134 (iz v + iz a) M = k134 (iz (v + a + (if (w = 4 ∧ cutH P b s = true) ∨ (w = 7 ∧ sp P b s ≠ -9 ∧ mr (rho P b) s = 0 ∧ (cutH P b s = true ∨ ¬ hd P b s)) then 1 else 0))) (iz ((s + 1 : Nat) : Int)) M := fun hn => by
    rw [iz_add, wb227 h hL hP hl hb hs hw]
    by_cases c : w = 7 ∧ sp P b s ≠ -9 ∧ mr (rho P b) s = 0 ∧ (cutH P b s = true ∨ ¬ hd P b s)
    · rw [if_pos c, if_pos (Or.inr c)]
    · rw [if_neg c, if_neg]
      intro z
      rcases z with z | z
      · exact hn z
      · exact c z
  by_cases c4 : w = 4
  · rw [if_pos (by rw [e4]; exact c4)]
    by_cases cc : cutH P b s = true
    · rw [if_neg (show ¬ (bz (cutH P b s = true) = 0) by rw [bz_t cc]; decide), if_pos (Or.inl ⟨c4, cc⟩)]
      unfold f_X6_wholeOf_b270
      rw [a1z, show (1 : Int32) = iz 1 from rfl, iz_add, iz_add]
    · rw [if_pos (show bz (cutH P b s = true) = 0 from bz_f cc)]
      exact rest (fun z => cc z.2)
  · rw [if_neg (by rw [e4]; exact c4)]
    exact rest (fun z => c4 z.1)
theorem wb165 (h : PR M r 0 P) (hL : LD M P) (hP : PgOk P) (hl : lnA r = 72) (hb : b < gB P) {s w : Nat} (hs : s < gS P) (hw : w < 8) (k10 k134 : Int32 → Int32 → Mem → Option (Int32 × Mem)) (v : Int) :
    f_X6_wholeOf_b165 r (iz w) (iz v) (iz b) (iz s) k10 k134 (bz (sp P b s ≠ -9)) M = k134 (iz (v + stp P b w s (cutH P b s) (rho P b))) (iz ((s + 1 : Nat) : Int)) M := by
  unfold f_X6_wholeOf_b165 f_X6_wholeOf_b213
  have hx := pg_lt hP.1.1 hs hb
  have hB := (hL.1 b hb).1
  have hro := rho_rng P b s
  have em : -9 ≤ mr (rho P b) s ∧ mr (rho P b) s ≤ 3 := by unfold mr; split <;> omega
  have er : (iz (mr (rho P b) s) = iz (w : Int)) = (mr (rho P b) s = w) := iz_eq (by omega) (by omega) (by omega) (by omega)
  have w0 := wb214 h hL hP hl hb hs hw k10 k134 v 0
  have w1 := wb214 h hL hP hl hb hs hw k10 k134 v 1
  have l0 : (iz (w : Int) ≤ 0) = (w = 0) := by
    rw [show (0 : Int32) = iz ((0 : Nat) : Int) from rfl, lez (by omega) (by omega)]
    exact propext ⟨fun z => by omega, fun z => by omega⟩
  have l4 : ((4 : Int32) ≤ iz (w : Int)) = (4 ≤ w) := by rw [show (4 : Int32) = iz ((4 : Nat) : Int) from rfl, lez (by omega) (by omega)]
  have zero : ¬ (1 ≤ w ∧ w < 4 ∧ sp P b s ≠ -9 ∧ mr (rho P b) s = w) → f_X6_wholeOf_b214 r (iz w) (iz b) (iz s) (bz (sp P b s ≠ -9)) (bz (cutH P b s = true)) k10 k134 0 (iz v) M = k134 (iz (v + stp P b w s (cutH P b s) (rho P b))) (iz ((s + 1 : Nat) : Int)) M := fun hn => by
    rw [show (0 : Int32) = iz 0 from rfl, w0]
    unfold stp
    rw [if_neg hn, Int.zero_add, Int.add_zero]
  rw [isCutHere_eq h hL hP hl hb hs, ob_some]
  by_cases c0 : w = 0
  · rw [if_pos (by rw [l0]; exact c0)]
    exact zero (by omega)
  · rw [if_neg (by rw [l0]; exact c0)]
    by_cases c4 : 4 ≤ w
    · rw [if_pos (by rw [l4]; exact c4)]
      exact zero (by omega)
    · rw [if_neg (by rw [l4]; exact c4)]
      by_cases c9 : sp P b s = -9
      · rw [if_pos (show bz (sp P b s ≠ -9) = 0 from bz_f (fun z => z c9))]
        exact zero (fun z => z.2.2.1 c9)
      · rw [if_neg (show ¬ (bz (sp P b s ≠ -9) = 0) by rw [bz_t c9]; decide), at_eq, ob_some, if_pos (inb_n hx (by omega)), cl_n (n := 16 * s + b) (by omega), hB.2 s hs]
        by_cases cr : mr (rho P b) s = w
        · rw [if_pos (by rw [er]; exact cr), show (1 : Int32) = iz 1 from rfl, w1]
          unfold stp
          rw [if_pos (show 1 ≤ w ∧ w < 4 ∧ sp P b s ≠ -9 ∧ mr (rho P b) s = w from ⟨by omega, by omega, c9, cr⟩), Int.add_assoc]
        · rw [if_neg (by rw [er]; exact cr)]
          exact zero (fun z => cr z.2.2.2)
theorem wholeOf_tot (h : PR M r 0 P) (hP : PgOk P) (hl : lnA r = 72) (hr : r < 36) {w : Nat} (hw : w < 8) : Tot (f_X6_wholeOf r (iz w) M) (fun x => x.1 = iz (nWhole P w) ∧ LD x.2 P ∧ Off RLy M x.2) := by
  unfold f_X6_wholeOf
  have h1 := hP.1.1.1
  have h2 := hP.1.1.2
  have i7 : inb 7 (lnA r) := by rw [hl]; decide
  have i6 : inb 6 (lnA r) := by rw [hl]; decide
  refine Tot.ob ((lay_tot h hP hl hr).mono ?_)
  intro ⟨_, M0⟩ ⟨hL, o0⟩
  have hL : LD M0 P := hL
  have o0 : Off RLy M M0 := o0
  have hp : PR M0 r 0 P := h.same (o0 r (by unfold RLy; omega))
  show Tot (lq2 (f_X6_wholeOf_b10 r (iz w)) 9999 0 0 M0) _
  rw [show (0 : Int32) = iz ((0 : Nat) : Int) from rfl]
  have ew0 : (iz (w : Int) = iz ((0 : Nat) : Int)) = (w = 0) := wz hw 0 (by omega)
  have ew5 : (iz (w : Int) = 5) = (w = 5) := wz hw 5 (by omega)
  have ew6 : (iz (w : Int) = 6) = (w = 6) := wz hw 6 (by omega)
  have rowOk : ∀ i, i < gB P → IsRow (sp P i) (kp (rho P i)) (rN P i (rho P i)) (rR P i (rho P i)) := fun i hi => (hL.1 i hi).2.1.2.2
  refine up2_tot (gB P) (fun i v M' => M' = M0 ∧ v = iz (sg (fun b => shM P b w) i)) ?_ ?_ 9999 0 _ M0 (by omega) ⟨rfl, rfl⟩ (by omega)
  · intro k10 i v M' hi ⟨e1, e2⟩ hk10
    subst e1 e2
    unfold f_X6_wholeOf_b10
    rw [if_pos i7, c7, hp.B, if_neg (by rw [lez (by omega) (by omega)]; omega)]
    have ib := inb_n (n := i) (N := 16) (by omega) (by omega)
    have hsq := msq_ok hL.1 hP.1.2.1 i hi
    have hbe := mbef_ok hL.1 hP.1.2.1 hi
    rw [show (0 : Int32) = iz ((0 : Nat) : Int) from rfl]
    refine up2_tot 2 (fun hh v M'' => M'' = M' ∧ v = iz (sg (fun b => shM P b w) i + sg (hpt P i w) hh)) ?_ ?_ 9999 0 _ M' (by omega) ⟨rfl, by rw [show sg (hpt P i w) 0 = 0 from rfl, Int.add_zero]⟩ (by omega)
    · intro k22 hh v M'' hhh ⟨e1, e2⟩ hk22
      subst e1 e2
      unfold f_X6_wholeOf_b22 f_X6_wholeOf_b57
      have l2 : ¬ ((2 : Int32) ≤ iz (hh : Int)) := by rw [show (2 : Int32) = iz ((2 : Nat) : Int) from rfl, lez (by omega) (by omega)]; omega
      have b58 : ∀ a x : Int, f_X6_wholeOf_b58 r (iz w) (iz i) (iz hh) k10 k22 (iz a) (iz x) M'' = k22 (iz (x + a + (if w = 6 then mv P i (bef P i) hh (sq P i) else 0))) (iz ((hh + 1 : Nat) : Int)) M'' := fun a x => by
        unfold f_X6_wholeOf_b58
        rw [iz_add, a1z]
        by_cases c : w = 6
        · rw [if_pos (by rw [ew6]; exact c), if_pos c, before_eq hL hP.1.1 hi, ob_some, if_pos ib, cl_n (n := i) (by omega), hL.2 i hi, mmove_eq hL.1 hP.1 hi hhh hsq hbe, ob_some, iz_add]
        · rw [if_neg (by rw [ew6]; exact c), if_neg c, show (0 : Int32) = iz 0 from rfl, iz_add]
      rw [if_neg l2]
      have go : ∀ a : Int, a = (if w = 5 then (if ro P i hh (sq P i) then 1 else 0) else 0) → Tot (f_X6_wholeOf_b58 r (iz w) (iz i) (iz hh) k10 k22 (iz a) (iz (sg (fun b => shM P b w) i + sg (hpt P i w) hh)) M'') (fun x => x.1 = iz (nWhole P w) ∧ LD x.2 P ∧ Off RLy M x.2) := fun a ha => by
        rw [b58]
        refine hk22 _ _ ⟨rfl, ?_⟩
        rw [sg.eq_2 (hpt P i w) hh, ha]
        congr 1
        unfold hpt
        omega
      by_cases c5 : w = 5
      · rw [if_pos (by rw [ew5]; exact c5), if_pos ib, cl_n (n := i) (by omega), hL.2 i hi, misRolled_eq hp (hL.1 i hi) hP.1 hl hi hhh hsq, ob_some]
        by_cases c : ro P i hh (sq P i)
        · rw [if_neg (show ¬ (bz (ro P i hh (sq P i)) = 0) by rw [bz_t c]; decide), show (1 : Int32) = iz 1 from rfl]
          exact go 1 (by rw [if_pos c5, if_pos c])
        · rw [if_pos (show bz (ro P i hh (sq P i)) = 0 from bz_f c)]
          exact go 0 (by rw [if_pos c5, if_neg c])
      · rw [if_neg (by rw [ew5]; exact c5)]
        exact go 0 (by rw [if_neg c5])
    · intro k22 v M'' ⟨e1, e2⟩
      subst e1 e2
      unfold f_X6_wholeOf_b22
      rw [if_pos (by decide)]
      unfold f_X6_wholeOf_b100 f_X6_wholeOf_b129
      have go : ∀ a : Int, a = (if w = 0 then co P i (bef P i) (sq P i) else 0) → Tot (lq2 (f_X6_wholeOf_b134 r (iz w) (iz i) k10) 9999 (iz (sg (fun b => shM P b w) i + sg (hpt P i w) 2) + iz a) (iz ((0 : Nat) : Int)) M'') (fun x => x.1 = iz (nWhole P w) ∧ LD x.2 P ∧ Off RLy M x.2) := fun a ha => by
        rw [iz_add]
        refine up2_tot (gS P) (fun s v M3 => M3 = M'' ∧ v = iz (sg (fun b => shM P b w) i + sg (hpt P i w) 2 + a + sg (fun s => stp P i w s (cutH P i s) (rho P i)) s)) ?_ ?_ 9999 0 _ M'' (by omega) ⟨rfl, by rw [show sg (fun s => stp P i w s (cutH P i s) (rho P i)) 0 = 0 from rfl, Int.add_zero]⟩ (by omega)
        · intro k134 s v M3 hs ⟨e1, e2⟩ hk134
          subst e1 e2
          unfold f_X6_wholeOf_b134
          have hx := pg_lt hP.1.1 hs hi
          have sr := sp_rng hP.1 hi s
          have e9 : (iz (sp P i s) = -9) = (sp P i s = -9) := by rw [show (-9 : Int32) = iz (-9) from rfl, iz_eq (by omega) (by omega) (by omega) (by omega)]
          rw [if_pos i6, c6, hp.S, if_neg (by rw [lez (by omega) (by omega)]; omega), at_eq, ob_some, if_pos (inb_n hx (by omega)), cl_n (n := 16 * s + i) (by omega), (hL.1 i hi).1.1 s hs]
          have fin : Tot (f_X6_wholeOf_b165 r (iz w) (iz (sg (fun b => shM P b w) i + sg (hpt P i w) 2 + a + sg (fun s => stp P i w s (cutH P i s) (rho P i)) s)) (iz i) (iz s) k10 k134 (bz (sp P i s ≠ -9)) M3) (fun x => x.1 = iz (nWhole P w) ∧ LD x.2 P ∧ Off RLy M x.2) := by
            rw [wb165 hp hL hP hl hi hs hw]
            refine hk134 _ _ ⟨rfl, ?_⟩
            rw [sg.eq_2 (fun s => stp P i w s (cutH P i s) (rho P i)) s, ← Int.add_assoc]
          by_cases c9 : sp P i s = -9
          · rw [if_pos (by rw [e9]; exact c9)]
            rw [bz_f (fun z => z c9)] at fin
            exact fin
          · rw [if_neg (by rw [e9]; exact c9)]
            rw [bz_t c9] at fin
            exact fin
        · intro k134 v M3 ⟨e1, e2⟩
          subst e1 e2
          unfold f_X6_wholeOf_b134
          rw [if_pos i6, c6, hp.S, if_pos (Int32.le_refl _), a1z]
          refine hk10 _ _ ⟨rfl, ?_⟩
          rw [sg.eq_2 (fun b => shM P b w) i]
          congr 1
          show _ = sg (fun b => shM P b w) i + (sg (hpt P i w) 2 + (if w = 0 then co P i (bef P i) (sq P i) else 0) + sg (fun s => stp P i w s (cutH P i s) (rho P i)) (gS P))
          rw [← ha]
          omega
      by_cases c0 : w = 0
      · rw [if_pos (show iz (w : Int) = 0 by rw [c0]; rfl), before_eq hL hP.1.1 hi, ob_some, if_pos ib, cl_n (n := i) (by omega), hL.2 i hi, costOf_eq hp hL.1 hP hl hi hsq hbe, ob_some]
        exact go _ (by rw [if_pos c0])
      · rw [if_neg (show ¬ (iz (w : Int) = 0) by rw [show (0 : Int32) = iz ((0 : Nat) : Int) from rfl, ew0]; exact c0)]
        exact go 0 (by rw [if_neg c0])
  · intro k10 v M' ⟨e1, e2⟩
    subst e1 e2
    unfold f_X6_wholeOf_b10
    rw [if_pos i7, c7, hp.B, if_pos (Int32.le_refl _)]
    refine Tot.mk ⟨?_, hL, o0⟩
    show iz _ = iz _
    congr 1
    unfold nWhole
    exact sg_cong (fun i hi => shM_eq hP.1.1 hi (rowOk i hi) hw)
end MW
