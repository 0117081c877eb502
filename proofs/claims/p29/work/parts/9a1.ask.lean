/-! THE LAW'S QUESTIONS, ANSWERED -/
section ASK
variable {D : Ds}
theorem a_about (hD : DOk D) {w : Nat} (hw : w < 10) {x : Int32} (hx : x = iz (w : Int)) : Ak (f_L_tryAbout x) D (iz (nAbout (dP D) w)) D := by
  have k := k_about D hD hx (by omega) (by omega)
  rw [if_pos (by omega)] at k
  exact ak_ok k
theorem a_S (hD : DOk D) : Ak (f_L_tryAbout 6) D (iz (gS (dP D) : Int)) D := a_about hD (w := 6) (by omega) rfl
theorem a_B (hD : DOk D) : Ak (f_L_tryAbout 7) D (iz (gB (dP D) : Int)) D := a_about hD (w := 7) (by omega) rfl
theorem a_E (hD : DOk D) {j : Nat} (hj : j < 6) {x : Int32} (hx : x = iz (j : Int)) : Ak (f_L_tryAbout x) D (iz (gE (dP D) j)) D := by
  have k := a_about hD (w := j) (by omega) hx
  unfold nAbout at k
  rw [if_pos hj] at k
  exact k
theorem a_cell (hD : DOk D) {s b : Nat} (hs : s < gS (dP D)) (hb : b < gB (dP D)) {x y : Int32} (hx : x = iz (s : Int)) (hy : y = iz (b : Int)) (z : Int32) : Ak (f_L_tryCell x y z) D (if z = 0 then iz (gC (dP D) s b) else iz (sp (dP D) b s)) D := by
  have h1 := hD.2.2.1.1.1.1
  have h2 := hD.2.2.1.1.1.2
  have k := k_cell D hD hx (by omega) (by omega) hy (by omega) (by omega) z
  rw [if_pos (by omega)] at k
  exact ak_ok k
theorem a_cellw (hD : DOk D) {s b : Nat} (hs : s < gS (dP D)) (hb : b < gB (dP D)) {x y : Int32} (hx : x = iz (s : Int)) (hy : y = iz (b : Int)) : Ak (f_L_tryCell x y 0) D (iz (gC (dP D) s b)) D := by
  have k := a_cell hD hs hb hx hy 0
  rw [if_pos rfl] at k
  exact k
theorem a_cells (hD : DOk D) {s b : Nat} (hs : s < gS (dP D)) (hb : b < gB (dP D)) {x y : Int32} (hx : x = iz (s : Int)) (hy : y = iz (b : Int)) : Ak (f_L_tryCell x y 1) D (iz (sp (dP D) b s)) D := by
  have k := a_cell hD hs hb hx hy 1
  rw [if_neg (by decide)] at k
  exact k
theorem a_note (hD : DOk D) {s b w : Nat} (hs : s < gS (dP D)) (hb : b < gB (dP D)) (hw : w < 4) {x y z : Int32} (hx : x = iz (s : Int)) (hy : y = iz (b : Int)) (hz : z = iz (w : Int)) : Ak (f_L_tryNote x y z) D (iz (nNote (dP D) s b w)) D := by
  have h1 := hD.2.2.1.1.1.1
  have h2 := hD.2.2.1.1.1.2
  have k := k_note D hD hx (by omega) (by omega) hy (by omega) (by omega) hz (by omega) (by omega)
  rw [if_pos (by omega), if_pos (by omega)] at k
  exact ak_ok k
theorem a_hand (hD : DOk D) {h b w : Nat} (hh : h < 2) (hb : b < gB (dP D)) (hw : w < 5) {x y z : Int32} (hx : x = iz (h : Int)) (hy : y = iz (b : Int)) (hz : z = iz (w : Int)) : Ak (f_L_tryHand x y z) D (iz (nHand (dP D) h b w)) D := by
  have h2 := hD.2.2.1.1.1.2
  have k := k_hand D hD hx (by omega) (by omega) hy (by omega) (by omega) hz (by omega) (by omega)
  rw [if_pos (by omega), if_pos (by omega), if_pos (by omega)] at k
  exact ak_ok k
theorem a_beat (hD : DOk D) {b w : Nat} (hb : b < gB (dP D)) (hw : w < 5) {y z : Int32} (hy : y = iz (b : Int)) (hz : z = iz (w : Int)) : Ak (f_L_tryBeat y z) D (nBeat (dP D) b w) D := by
  have h2 := hD.2.2.1.1.1.2
  have k := k_beat D hD hy (by omega) (by omega) hz (by omega) (by omega)
  rw [if_pos (by omega), if_pos (by omega)] at k
  exact ak_ok k
theorem a_whole (hD : DOk D) {w : Nat} (hw : w < 8) {x : Int32} (hx : x = iz (w : Int)) : Ak (f_L_tryWhole x) D (iz (nWhole (dP D) w)) D := by
  have k := k_whole D hD hx (by omega) (by omega)
  rw [if_pos (by omega)] at k
  exact ak_ok k
theorem a_whatIf (hD : DOk D) {j w : Nat} {v : Int} (hv : setOk j v) (hw : w < 8) {x y z : Int32} (hx : x = iz (j : Int)) (hy : y = iz v) (hz : z = iz (w : Int)) : Ak (f_L_tryWhatIf x y z) D (iz (nWhole (pset (dP D) j v) w)) D := by
  have k := k_whatIf D hD hx (by omega) (by omega) hy (by omega) (by omega) hz (by omega) (by omega)
  rw [if_pos hv, if_pos (by omega)] at k
  exact ak_ok k
theorem a_small (hD : DOk D) : Ak f_X5_smallestSpan D (iz (spS (dP D) 24)) D := ak_d (k_smallest D hD)
theorem a_dear (hD : DOk D) : Ak f_X5_dearest D (iz (dea (dP D) (gS (dP D) - 1)).1) D := ak_d (k_dearest D hD)
theorem a_err (hD : DOk D) : Ak f_X5_errorPosition D (iz (rdE D.1)) D := ak_d (k_error D hD)
theorem a_best (hD : DOk D) {s : Nat} (hs : s < gS (dP D)) {x : Int32} (hx : x = iz (s : Int)) : Ak (f_L_tryBestTransposition x) D (iz (bt (dP D) s 120).1) D := by
  have h1 := hD.2.2.1.1.1.1
  have k := k_best D hD hx (by omega) (by omega)
  rw [if_pos (by omega)] at k
  exact ak_ok k
theorem a_sim (hD : DOk D) (w : Int64) : Ak (f_L_trySimulate w 6) D (iz (nWhole (simS (dP D) w 6).2 0 + 1000 * ((nWhole (simS (dP D) w 6).2 1 + nWhole (simS (dP D) w 6).2 2) + nWhole (simS (dP D) w 6).2 3))) D := by
  have k := k_simulate D hD w (x0 := 6) (v := 6) rfl (by omega) (by omega)
  rw [if_pos (by omega)] at k
  exact ak_ok k
theorem a_script (hD : DOk D) {n N : Nat} (h1 : 1 ≤ n) (h3 : n ≤ 3) (hN : N < 100000 ^ n) {x : Int32} {w : Int64} (hx : x = iz (n : Int)) (hw : w = jn N) : Ak (f_L_tryScript x w) D (iz (rsA N n n (dP D))) D := by
  have k := k_runScript D hD hx (by omega) (by omega) w
  have hp := pow5 h3
  have e : w.toInt = (N : Int) := by rw [hw]; exact jn_toInt (by omega)
  rw [if_pos (by omega), e, if_pos (by omega)] at k
  simp only [Int.toNat_natCast] at k
  rw [if_pos hN] at k
  exact ak_ok k
/-! acts -/
theorem a_set (hD : DOk D) {j : Nat} {v : Int} (hv : setOk j v) {x y : Int32} (hx : x = iz (j : Int)) (hy : y = iz v) : Ak (f_L_trySet x y) D (iz (gE (dP D) j)) (dPut (dRem D) (pset (dP D) j v)) := by
  have k := k_set D hD hx (by omega) (by omega) hy (by omega) (by omega)
  rw [if_pos hv] at k
  exact ak_ok k
theorem a_write (hD : DOk D) {s b : Nat} {v : Int} (hs : s < gS (dP D)) (hb : b < gB (dP D)) (hv : v = 99 ∨ (-1 ≤ v ∧ v ≤ 60)) (hc : canW (dP D) s b v) {x y z : Int32} (hx : x = iz (s : Int)) (hy : y = iz (b : Int)) (hz : z = iz v) : Ak (f_L_tryWrite x y z) D (iz (gC (dP D) s b)) (dPut (dRem D) (pwr (dP D) s b v)) := by
  have h1 := hD.2.2.1.1.1.1
  have h2 := hD.2.2.1.1.1.2
  have k := k_write D hD hx (by omega) (by omega) hy (by omega) (by omega) hz (by omega) (by omega)
  rw [if_pos (by omega), if_pos hv] at k
  simp only [Int.toNat_natCast] at k
  rw [if_pos hc] at k
  exact ak_ok k
theorem a_writeN (hD : DOk D) {s b : Nat} {v : Int} (hs : s < gS (dP D)) (hb : b < gB (dP D)) (hv : v = 99 ∨ (-1 ≤ v ∧ v ≤ 60)) (hc : ¬ canW (dP D) s b v) {x y z : Int32} (hx : x = iz (s : Int)) (hy : y = iz (b : Int)) (hz : z = iz v) : Ak (f_L_tryWrite x y z) D (-1003) D := by
  have h1 := hD.2.2.1.1.1.1
  have h2 := hD.2.2.1.1.1.2
  have k := k_write D hD hx (by omega) (by omega) hy (by omega) (by omega) hz (by omega) (by omega)
  rw [if_pos (by omega), if_pos hv] at k
  simp only [Int.toNat_natCast] at k
  rw [if_neg hc] at k
  exact ak_er k rfl
theorem a_trans (hD : DOk D) {s : Nat} {d : Int} (hs : s < gS (dP D)) (hd : -60 ≤ d ∧ d ≤ 60) (hc : canMv (dP D) s d) {x y : Int32} (hx : x = iz (s : Int)) (hy : y = iz d) : Ak (f_L_tryTranspose x y) D (iz (nPit (dP D) s (gB (dP D)))) (dPut (dRem D) (pmov (dP D) s d)) := by
  have h1 := hD.2.2.1.1.1.1
  have k := k_transpose D hD hx (by omega) (by omega) hy (by omega) (by omega)
  rw [if_pos (by omega), if_pos hd] at k
  simp only [Int.toNat_natCast] at k
  rw [if_pos hc] at k
  exact ak_ok k
theorem a_transN (hD : DOk D) {s : Nat} {d : Int} (hs : s < gS (dP D)) (hd : -60 ≤ d ∧ d ≤ 60) (hc : ¬ canMv (dP D) s d) {x y : Int32} (hx : x = iz (s : Int)) (hy : y = iz d) : Ak (f_L_tryTranspose x y) D (-1003) D := by
  have h1 := hD.2.2.1.1.1.1
  have k := k_transpose D hD hx (by omega) (by omega) hy (by omega) (by omega)
  rw [if_pos (by omega), if_pos hd] at k
  simp only [Int.toNat_natCast] at k
  rw [if_neg hc] at k
  exact ak_er k rfl
theorem a_exch (hD : DOk D) {s d : Nat} (hs : s < gS (dP D)) (hd : d < gS (dP D)) {x y : Int32} (hx : x = iz (s : Int)) (hy : y = iz (d : Int)) : Ak (f_L_tryExchange x y) D (iz (nDif (dP D) s d (gB (dP D)))) (dPut (dRem D) (pswp (dP D) s d)) := by
  have h1 := hD.2.2.1.1.1.1
  have k := k_exchange D hD hx (by omega) (by omega) hy (by omega) (by omega)
  rw [if_pos (by omega), if_pos (by omega)] at k
  exact ak_ok k
theorem a_more (hD : DOk D) (h : gS (dP D) < 4) : Ak (f_L_tryStaff 1) D (iz ((gS (dP D) + 1 : Nat) : Int)) (dPut (dRem D) (padd (dP D))) := by
  have k := k_staff D hD 1
  rw [if_neg (by decide), if_pos h] at k
  exact ak_ok k
theorem a_moreN (hD : DOk D) (h : ¬ gS (dP D) < 4) : Ak (f_L_tryStaff 1) D (-1003) D := by
  have k := k_staff D hD 1
  rw [if_neg (by decide), if_neg h] at k
  exact ak_er k rfl
theorem a_less (hD : DOk D) (h : 1 < gS (dP D)) : Ak (f_L_tryStaff 0) D (iz ((gS (dP D) - 1 : Nat) : Int)) (dPut (dRem D) (pdrp (dP D))) := by
  have k := k_staff D hD 0
  rw [if_pos rfl, if_pos h] at k
  exact ak_ok k
theorem a_lessN (hD : DOk D) (h : ¬ 1 < gS (dP D)) : Ak (f_L_tryStaff 0) D (-1003) D := by
  have k := k_staff D hD 0
  rw [if_pos rfl, if_neg h] at k
  exact ak_er k rfl
theorem a_ins (hD : DOk D) {t : Nat} (ht : t ≤ gB (dP D)) (h : gB (dP D) < 16) {x : Int32} (hx : x = iz (t : Int)) : Ak (f_L_tryInsertBeat x) D (iz ((gB (dP D) + 1 : Nat) : Int)) (dPut (dRem D) (pmend (popn (dP D) t))) := by
  have k := k_insertBeat D hD hx (by omega) (by omega)
  rw [if_pos (by omega), if_pos h] at k
  exact ak_ok k
theorem a_insN (hD : DOk D) {t : Nat} (ht : t ≤ gB (dP D)) (h : ¬ gB (dP D) < 16) {x : Int32} (hx : x = iz (t : Int)) : Ak (f_L_tryInsertBeat x) D (-1003) D := by
  have h2 := hD.2.2.1.1.1.2
  have k := k_insertBeat D hD hx (by omega) (by omega)
  rw [if_pos (by omega), if_neg h] at k
  exact ak_er k rfl
theorem a_rem (hD : DOk D) {t : Nat} (ht : t < gB (dP D)) (h : 1 < gB (dP D)) {x : Int32} (hx : x = iz (t : Int)) : Ak (f_L_tryRemoveBeat x) D (iz ((gB (dP D) - 1 : Nat) : Int)) (dPut (dRem D) (pmend (pcls (dP D) t))) := by
  have h2 := hD.2.2.1.1.1.2
  have k := k_removeBeat D hD hx (by omega) (by omega)
  rw [if_pos (by omega), if_pos h] at k
  exact ak_ok k
theorem a_remN (hD : DOk D) {t : Nat} (ht : t < gB (dP D)) (h : ¬ 1 < gB (dP D)) {x : Int32} (hx : x = iz (t : Int)) : Ak (f_L_tryRemoveBeat x) D (-1003) D := by
  have h2 := hD.2.2.1.1.1.2
  have k := k_removeBeat D hD hx (by omega) (by omega)
  rw [if_pos (by omega), if_neg h] at k
  exact ak_er k rfl
theorem a_undo (hD : DOk D) (h : 0 < dH D) : Ak f_L_tryUndo D (iz (dH D - 1 : Nat)) (dBack D) := by
  have k := k_undo D hD
  rw [if_pos h] at k
  exact ak_ok k
theorem a_undoN (hD : DOk D) (h : ¬ 0 < dH D) : Ak f_L_tryUndo D (-1003) D := by
  have k := k_undo D hD
  rw [if_neg h] at k
  exact ak_er k rfl
theorem a_save (hD : DOk D) {s : Nat} (hs : s < 2) {x : Int32} (hx : x = iz (s : Int)) : Ak (f_L_trySave x) D (iz (gB (dP D))) (dSav D s) := by
  have k := k_save D hD hx (by omega) (by omega)
  rw [if_pos (by omega)] at k
  exact ak_ok k
theorem a_rest (hD : DOk D) {s : Nat} (hs : s < 2) (hf : dF D s = true) {x : Int32} (hx : x = iz (s : Int)) : Ak (f_L_tryRestore x) D (iz (gB (dS D s))) (dRes D (dS D s)) := by
  have k := k_restore D hD hx (by omega) (by omega)
  rw [if_pos (by omega)] at k
  simp only [Int.toNat_natCast] at k
  rw [if_pos hf] at k
  exact ak_ok k
theorem a_restN (hD : DOk D) {s : Nat} (hs : s < 2) (hf : ¬ dF D s = true) {x : Int32} (hx : x = iz (s : Int)) : Ak (f_L_tryRestore x) D (-1003) D := by
  have k := k_restore D hD hx (by omega) (by omega)
  rw [if_pos (by omega)] at k
  simp only [Int.toNat_natCast] at k
  rw [if_neg hf] at k
  exact ak_er k rfl
theorem a_load (hD : DOk D) (h : rdE D.1 = -9) : Ak f_L_tryLoad D (iz (gB (rdP D.1))) (dLoad D) := by
  have k := k_load D hD
  rw [if_pos h] at k
  exact ak_ok k
theorem a_loadN (hD : DOk D) (h : ¬ rdE D.1 = -9) : Ak f_L_tryLoad D (-1003) D := by
  have k := k_load D hD
  rw [if_neg h] at k
  exact ak_er k rfl
def dApp (D : Ds) (c : Int) : Ds := ((dN D + 1, fun i => if i = dN D then c else dT D i), D.2)
theorem a_app (hD : DOk D) {c : Int} (hc : 0 ≤ c ∧ c ≤ 255) (h : dN D < 140) {x : Int32} (hx : x = iz c) : Ak (f_L_tryAppend x) D (iz ((dN D + 1 : Nat) : Int)) (dApp D c) := by
  have k := k_append D hD hx (by omega) (by omega)
  rw [if_pos hc, if_pos h] at k
  exact ak_ok k
theorem a_clear (hD : DOk D) : Ak f_X5_clearText D (iz (dN D)) ((0, dT D), D.2) := ak_d (k_clear D hD)
end ASK
