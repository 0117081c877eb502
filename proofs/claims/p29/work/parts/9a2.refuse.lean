/-! CALLS THAT ARE REFUSED -/
section REF
variable {D : Ds}
theorem e_about (hD : DOk D) {x : Int32} {v : Int} (hx : x = iz v) (v1 : -2147483648 ≤ v) (v2 : v < 2147483648) (h : ¬ (0 ≤ v ∧ v ≤ 9)) : Ak (f_L_tryAbout x) D (-1002) D := by
  have k := k_about D hD hx v1 v2
  rw [if_neg h] at k
  exact ak_er k rfl
theorem e_cell (hD : DOk D) {x : Int32} {s : Int} (hx : x = iz s) (s1 : -2147483648 ≤ s) (s2 : s < 2147483648) {y : Int32} {b : Int} (hy : y = iz b) (b1 : -2147483648 ≤ b) (b2 : b < 2147483648) (u : Int32) (h : ¬ ((0 ≤ s ∧ s < gS (dP D)) ∧ 0 ≤ b ∧ b < gB (dP D))) : Ak (f_L_tryCell x y u) D (-1001) D := by
  have k := k_cell D hD hx s1 s2 hy b1 b2 u
  rw [if_neg h] at k
  exact ak_er k rfl
theorem e_set (hD : DOk D) {x : Int32} {a : Int} (hx : x = iz a) (a1 : -2147483648 ≤ a) (a2 : a < 2147483648) {y : Int32} {v : Int} (hy : y = iz v) (v1 : -2147483648 ≤ v) (v2 : v < 2147483648) (h : ¬ setOk a v) : Ak (f_L_trySet x y) D (-1002) D := by
  have k := k_set D hD hx a1 a2 hy v1 v2
  rw [if_neg h] at k
  exact ak_er k rfl
theorem e_write1 (hD : DOk D) {x : Int32} {s : Int} (hx : x = iz s) (s1 : -2147483648 ≤ s) (s2 : s < 2147483648) {y : Int32} {b : Int} (hy : y = iz b) (b1 : -2147483648 ≤ b) (b2 : b < 2147483648) {z : Int32} {v : Int} (hz : z = iz v) (v1 : -2147483648 ≤ v) (v2 : v < 2147483648) (h : ¬ ((0 ≤ s ∧ s < gS (dP D)) ∧ 0 ≤ b ∧ b < gB (dP D))) : Ak (f_L_tryWrite x y z) D (-1001) D := by
  have k := k_write D hD hx s1 s2 hy b1 b2 hz v1 v2
  rw [if_neg h] at k
  exact ak_er k rfl
theorem e_write2 (hD : DOk D) {x : Int32} {s : Int} (hx : x = iz s) (s1 : -2147483648 ≤ s) (s2 : s < 2147483648) {y : Int32} {b : Int} (hy : y = iz b) (b1 : -2147483648 ≤ b) (b2 : b < 2147483648) {z : Int32} {v : Int} (hz : z = iz v) (v1 : -2147483648 ≤ v) (v2 : v < 2147483648) (h0 : ((0 ≤ s ∧ s < gS (dP D)) ∧ 0 ≤ b ∧ b < gB (dP D))) (h : ¬ (v = 99 ∨ (-1 ≤ v ∧ v ≤ 60))) : Ak (f_L_tryWrite x y z) D (-1002) D := by
  have k := k_write D hD hx s1 s2 hy b1 b2 hz v1 v2
  rw [if_pos h0, if_neg h] at k
  exact ak_er k rfl
theorem e_write3 (hD : DOk D) {x : Int32} {s : Int} (hx : x = iz s) (s1 : -2147483648 ≤ s) (s2 : s < 2147483648) {y : Int32} {b : Int} (hy : y = iz b) (b1 : -2147483648 ≤ b) (b2 : b < 2147483648) {z : Int32} {v : Int} (hz : z = iz v) (v1 : -2147483648 ≤ v) (v2 : v < 2147483648) (h0 : ((0 ≤ s ∧ s < gS (dP D)) ∧ 0 ≤ b ∧ b < gB (dP D))) (h1 : v = 99 ∨ (-1 ≤ v ∧ v ≤ 60)) (h : ¬ canW (dP D) s.toNat b.toNat v) : Ak (f_L_tryWrite x y z) D (-1003) D := by
  have k := k_write D hD hx s1 s2 hy b1 b2 hz v1 v2
  rw [if_pos h0, if_pos h1, if_neg h] at k
  exact ak_er k rfl
theorem e_trans1 (hD : DOk D) {x : Int32} {s : Int} (hx : x = iz s) (s1 : -2147483648 ≤ s) (s2 : s < 2147483648) {y : Int32} {d : Int} (hy : y = iz d) (d1 : -2147483648 ≤ d) (d2 : d < 2147483648) (h : ¬ (0 ≤ s ∧ s < gS (dP D))) : Ak (f_L_tryTranspose x y) D (-1001) D := by
  have k := k_transpose D hD hx s1 s2 hy d1 d2
  rw [if_neg h] at k
  exact ak_er k rfl
theorem e_trans2 (hD : DOk D) {x : Int32} {s : Int} (hx : x = iz s) (s1 : -2147483648 ≤ s) (s2 : s < 2147483648) {y : Int32} {d : Int} (hy : y = iz d) (d1 : -2147483648 ≤ d) (d2 : d < 2147483648) (h0 : 0 ≤ s ∧ s < gS (dP D)) (h : ¬ (-60 ≤ d ∧ d ≤ 60)) : Ak (f_L_tryTranspose x y) D (-1002) D := by
  have k := k_transpose D hD hx s1 s2 hy d1 d2
  rw [if_pos h0, if_neg h] at k
  exact ak_er k rfl
theorem e_exch2 (hD : DOk D) {x : Int32} {s : Int} (hx : x = iz s) (s1 : -2147483648 ≤ s) (s2 : s < 2147483648) {y : Int32} {d : Int} (hy : y = iz d) (d1 : -2147483648 ≤ d) (d2 : d < 2147483648) (h0 : 0 ≤ s ∧ s < gS (dP D)) (h : ¬ (0 ≤ d ∧ d < gS (dP D))) : Ak (f_L_tryExchange x y) D (-1001) D := by
  have k := k_exchange D hD hx s1 s2 hy d1 d2
  rw [if_pos h0, if_neg h] at k
  exact ak_er k rfl
theorem e_ins (hD : DOk D) {x : Int32} {v : Int} (hx : x = iz v) (v1 : -2147483648 ≤ v) (v2 : v < 2147483648) (h : ¬ (0 ≤ v ∧ v ≤ gB (dP D))) : Ak (f_L_tryInsertBeat x) D (-1001) D := by
  have k := k_insertBeat D hD hx v1 v2
  rw [if_neg h] at k
  exact ak_er k rfl
theorem e_rem (hD : DOk D) {x : Int32} {v : Int} (hx : x = iz v) (v1 : -2147483648 ≤ v) (v2 : v < 2147483648) (h : ¬ (0 ≤ v ∧ v < gB (dP D))) : Ak (f_L_tryRemoveBeat x) D (-1001) D := by
  have k := k_removeBeat D hD hx v1 v2
  rw [if_neg h] at k
  exact ak_er k rfl
theorem e_note1 (hD : DOk D) {x : Int32} {s : Int} (hx : x = iz s) (s1 : -2147483648 ≤ s) (s2 : s < 2147483648) {y : Int32} {b : Int} (hy : y = iz b) (b1 : -2147483648 ≤ b) (b2 : b < 2147483648) {z : Int32} {v : Int} (hz : z = iz v) (v1 : -2147483648 ≤ v) (v2 : v < 2147483648) (h : ¬ ((0 ≤ s ∧ s < gS (dP D)) ∧ 0 ≤ b ∧ b < gB (dP D))) : Ak (f_L_tryNote x y z) D (-1001) D := by
  have k := k_note D hD hx s1 s2 hy b1 b2 hz v1 v2
  rw [if_neg h] at k
  exact ak_er k rfl
theorem e_note2 (hD : DOk D) {x : Int32} {s : Int} (hx : x = iz s) (s1 : -2147483648 ≤ s) (s2 : s < 2147483648) {y : Int32} {b : Int} (hy : y = iz b) (b1 : -2147483648 ≤ b) (b2 : b < 2147483648) {z : Int32} {v : Int} (hz : z = iz v) (v1 : -2147483648 ≤ v) (v2 : v < 2147483648) (h0 : ((0 ≤ s ∧ s < gS (dP D)) ∧ 0 ≤ b ∧ b < gB (dP D))) (h : ¬ (0 ≤ v ∧ v ≤ 3)) : Ak (f_L_tryNote x y z) D (-1002) D := by
  have k := k_note D hD hx s1 s2 hy b1 b2 hz v1 v2
  rw [if_pos h0, if_neg h] at k
  exact ak_er k rfl
theorem e_hand1 (hD : DOk D) {x : Int32} {s : Int} (hx : x = iz s) (s1 : -2147483648 ≤ s) (s2 : s < 2147483648) {y : Int32} {b : Int} (hy : y = iz b) (b1 : -2147483648 ≤ b) (b2 : b < 2147483648) {z : Int32} {v : Int} (hz : z = iz v) (v1 : -2147483648 ≤ v) (v2 : v < 2147483648) (h : ¬ (0 ≤ s ∧ s ≤ 1)) : Ak (f_L_tryHand x y z) D (-1001) D := by
  have k := k_hand D hD hx s1 s2 hy b1 b2 hz v1 v2
  rw [if_neg h] at k
  exact ak_er k rfl
theorem e_hand2 (hD : DOk D) {x : Int32} {s : Int} (hx : x = iz s) (s1 : -2147483648 ≤ s) (s2 : s < 2147483648) {y : Int32} {b : Int} (hy : y = iz b) (b1 : -2147483648 ≤ b) (b2 : b < 2147483648) {z : Int32} {v : Int} (hz : z = iz v) (v1 : -2147483648 ≤ v) (v2 : v < 2147483648) (h0 : 0 ≤ s ∧ s ≤ 1) (h1 : 0 ≤ b ∧ b < gB (dP D)) (h : ¬ (0 ≤ v ∧ v ≤ 4)) : Ak (f_L_tryHand x y z) D (-1002) D := by
  have k := k_hand D hD hx s1 s2 hy b1 b2 hz v1 v2
  rw [if_pos h0, if_pos h1, if_neg h] at k
  exact ak_er k rfl
theorem e_beat1 (hD : DOk D) {y : Int32} {b : Int} (hy : y = iz b) (b1 : -2147483648 ≤ b) (b2 : b < 2147483648) {z : Int32} {v : Int} (hz : z = iz v) (v1 : -2147483648 ≤ v) (v2 : v < 2147483648) (h : ¬ (0 ≤ b ∧ b < gB (dP D))) : Ak (f_L_tryBeat y z) D (-1001) D := by
  have k := k_beat D hD hy b1 b2 hz v1 v2
  rw [if_neg h] at k
  exact ak_er k rfl
theorem e_beat2 (hD : DOk D) {y : Int32} {b : Int} (hy : y = iz b) (b1 : -2147483648 ≤ b) (b2 : b < 2147483648) {z : Int32} {v : Int} (hz : z = iz v) (v1 : -2147483648 ≤ v) (v2 : v < 2147483648) (h0 : 0 ≤ b ∧ b < gB (dP D)) (h : ¬ (0 ≤ v ∧ v ≤ 4)) : Ak (f_L_tryBeat y z) D (-1002) D := by
  have k := k_beat D hD hy b1 b2 hz v1 v2
  rw [if_pos h0, if_neg h] at k
  exact ak_er k rfl
theorem e_whole (hD : DOk D) {x : Int32} {v : Int} (hx : x = iz v) (v1 : -2147483648 ≤ v) (v2 : v < 2147483648) (h : ¬ (0 ≤ v ∧ v ≤ 7)) : Ak (f_L_tryWhole x) D (-1002) D := by
  have k := k_whole D hD hx v1 v2
  rw [if_neg h] at k
  exact ak_er k rfl
theorem e_what1 (hD : DOk D) {x : Int32} {a : Int} (hx : x = iz a) (a1 : -2147483648 ≤ a) (a2 : a < 2147483648) {y : Int32} {v : Int} (hy : y = iz v) (v1 : -2147483648 ≤ v) (v2 : v < 2147483648) {z : Int32} {w : Int} (hz : z = iz w) (w1 : -2147483648 ≤ w) (w2 : w < 2147483648) (h : ¬ setOk a v) : Ak (f_L_tryWhatIf x y z) D (-1002) D := by
  have k := k_whatIf D hD hx a1 a2 hy v1 v2 hz w1 w2
  rw [if_neg h] at k
  exact ak_er k rfl
theorem e_what2 (hD : DOk D) {x : Int32} {a : Int} (hx : x = iz a) (a1 : -2147483648 ≤ a) (a2 : a < 2147483648) {y : Int32} {v : Int} (hy : y = iz v) (v1 : -2147483648 ≤ v) (v2 : v < 2147483648) {z : Int32} {w : Int} (hz : z = iz w) (w1 : -2147483648 ≤ w) (w2 : w < 2147483648) (h0 : setOk a v) (h : ¬ (0 ≤ w ∧ w ≤ 7)) : Ak (f_L_tryWhatIf x y z) D (-1002) D := by
  have k := k_whatIf D hD hx a1 a2 hy v1 v2 hz w1 w2
  rw [if_pos h0, if_neg h] at k
  exact ak_er k rfl
theorem e_best (hD : DOk D) {x : Int32} {s : Int} (hx : x = iz s) (s1 : -2147483648 ≤ s) (s2 : s < 2147483648) (h : ¬ (0 ≤ s ∧ s < gS (dP D))) : Ak (f_L_tryBestTransposition x) D (-1001) D := by
  have k := k_best D hD hx s1 s2
  rw [if_neg h] at k
  exact ak_er k rfl
theorem e_scr1 (hD : DOk D) {x : Int32} {v : Int} (hx : x = iz v) (v1 : -2147483648 ≤ v) (v2 : v < 2147483648) (w : Int64) (h : ¬ (1 ≤ v ∧ v ≤ 3)) : Ak (f_L_tryScript x w) D (-1002) D := by
  have k := k_runScript D hD hx v1 v2 w
  rw [if_neg h] at k
  exact ak_er k rfl
theorem e_scr2 (hD : DOk D) {x : Int32} {v : Int} (hx : x = iz v) (v1 : -2147483648 ≤ v) (v2 : v < 2147483648) (w : Int64) (h0 : 1 ≤ v ∧ v ≤ 3) (h1 : 0 ≤ w.toInt) (h : ¬ w.toInt.toNat < 100000 ^ v.toNat) : Ak (f_L_tryScript x w) D (-1002) D := by
  have k := k_runScript D hD hx v1 v2 w
  rw [if_pos h0, if_pos h1, if_neg h] at k
  exact ak_er k rfl
theorem e_save (hD : DOk D) {x : Int32} {v : Int} (hx : x = iz v) (v1 : -2147483648 ≤ v) (v2 : v < 2147483648) (h : ¬ (0 ≤ v ∧ v ≤ 1)) : Ak (f_L_trySave x) D (-1001) D := by
  have k := k_save D hD hx v1 v2
  rw [if_neg h] at k
  exact ak_er k rfl
theorem e_rest (hD : DOk D) {x : Int32} {v : Int} (hx : x = iz v) (v1 : -2147483648 ≤ v) (v2 : v < 2147483648) (h : ¬ (0 ≤ v ∧ v ≤ 1)) : Ak (f_L_tryRestore x) D (-1001) D := by
  have k := k_restore D hD hx v1 v2
  rw [if_neg h] at k
  exact ak_er k rfl
theorem e_app (hD : DOk D) {x : Int32} {v : Int} (hx : x = iz v) (v1 : -2147483648 ≤ v) (v2 : v < 2147483648) (h : ¬ (0 ≤ v ∧ v ≤ 255)) : Ak (f_L_tryAppend x) D (-1002) D := by
  have k := k_append D hD hx v1 v2
  rw [if_neg h] at k
  exact ak_er k rfl
theorem e_sim (hD : DOk D) (w : Int64) {x : Int32} {v : Int} (hx : x = iz v) (v1 : -2147483648 ≤ v) (v2 : v < 2147483648) (h : ¬ (1 ≤ v ∧ v ≤ 40)) : Ak (f_L_trySimulate w x) D (-1002) D := by
  have k := k_simulate D hD w hx v1 v2
  rw [if_neg h] at k
  exact ak_er k rfl
theorem iz_pos {a : Int32} {b : Int32} (h : a = b) {β : Type} (x y : β) : (if a = b then x else y) = x := if_pos h
set_option maxHeartbeats 8000000 in
theorem refuses_ok (hD : DOk D) : AkO f_L_refuses D 1 D := by
  have h1 := hD.2.2.1.1.1.1
  have h2 := hD.2.2.1.1.1.2
  refine ak_of hD (fun M0 M h => ?_)
  have b346 : ∀ M, St1 M0 D M → Tot (f_L_refuses_b346 (iz (gS (dP D) : Int)) (iz (gB (dP D) : Int)) M) (fun x => x.1 = 1 ∧ St1 M0 D x.2) := fun M h => by
    unfold f_L_refuses_b346
    refine stp (e_note1 hD (s := 0) (b := gB (dP D)) (v := 4) rfl (by omega) (by omega) rfl (by omega) (by omega) rfl (by omega) (by omega) (by omega)) h (fun M h => ?_)
    rw [if_pos rfl]
    refine stp (e_note2 hD (s := 0) (b := 0) (v := 4) rfl (by omega) (by omega) rfl (by omega) (by omega) rfl (by omega) (by omega) (by omega) (by omega)) h (fun M h => ?_)
    rw [if_pos rfl]
    refine stp (e_hand1 hD (s := 2) (b := 0) (v := 5) rfl (by omega) (by omega) rfl (by omega) (by omega) rfl (by omega) (by omega) (by omega)) h (fun M h => ?_)
    rw [if_pos rfl]
    refine stp (e_hand2 hD (s := 0) (b := 0) (v := 5) rfl (by omega) (by omega) rfl (by omega) (by omega) rfl (by omega) (by omega) (by omega) (by omega) (by omega)) h (fun M h => ?_)
    rw [if_pos rfl]
    refine stp (e_beat1 hD (b := gB (dP D)) (v := 5) rfl (by omega) (by omega) rfl (by omega) (by omega) (by omega)) h (fun M h => ?_)
    rw [if_pos rfl]
    refine stp (e_beat2 hD (b := 0) (v := 5) rfl (by omega) (by omega) rfl (by omega) (by omega) (by omega) (by omega)) h (fun M h => ?_)
    rw [if_pos rfl]
    refine stp (e_whole hD (v := 8) rfl (by omega) (by omega) (by omega)) h (fun M h => ?_)
    rw [if_pos rfl]
    refine stp (e_what1 hD (a := 0) (v := 0) (w := 0) rfl (by omega) (by omega) rfl (by omega) (by omega) rfl (by omega) (by omega) (by omega)) h (fun M h => ?_)
    rw [if_pos rfl]
    refine stp (e_what2 hD (a := 0) (v := 1) (w := 8) rfl (by omega) (by omega) rfl (by omega) (by omega) rfl (by omega) (by omega) (by omega) (by omega)) h (fun M h => ?_)
    rw [if_pos rfl]
    refine stp (e_best hD (s := gS (dP D)) rfl (by omega) (by omega) (by omega)) h (fun M h => ?_)
    rw [if_pos rfl]
    refine stp (e_scr1 hD (v := 4) rfl (by omega) (by omega) 0 (by omega)) h (fun M h => ?_)
    rw [if_pos rfl]
    refine stp (e_scr2 hD (v := 1) rfl (by omega) (by omega) 100000 (by omega) (by decide) (by decide)) h (fun M h => ?_)
    rw [if_pos rfl]
    refine stp (e_sim hD 1 (v := 41) rfl (by omega) (by omega) (by omega)) h (fun M h => ?_)
    rw [if_pos rfl]
    refine stp (e_save hD (v := 2) rfl (by omega) (by omega) (by omega)) h (fun M h => ?_)
    rw [if_pos rfl]
    refine stp (e_rest hD (v := -1) rfl (by omega) (by omega) (by omega)) h (fun M h => ?_)
    rw [if_pos rfl]
    refine stp (e_app hD (v := 256) rfl (by omega) (by omega) (by omega)) h (fun M h => ?_)
    rw [if_pos rfl]
    exact ak_end h
  have b319 : ∀ M, St1 M0 D M → Tot (f_L_refuses_b319 (iz (gS (dP D) : Int)) (iz (gB (dP D) : Int)) M) (fun x => x.1 = 1 ∧ St1 M0 D x.2) := fun M h => by
    unfold f_L_refuses_b319
    refine stp (e_rem hD (v := gB (dP D)) rfl (by omega) (by omega) (by omega)) h (fun M h => ?_)
    rw [if_pos rfl]
    by_cases c : 1 < gB (dP D)
    · rw [if_pos (by rw [show (1 : Int32) = iz ((1 : Nat) : Int) from rfl, ltz (by omega) (by omega)]; exact c)]
      exact b346 M h
    · rw [if_neg (by rw [show (1 : Int32) = iz ((1 : Nat) : Int) from rfl, ltz (by omega) (by omega)]; exact c)]
      refine stp (a_remN hD (t := 0) (by omega) c rfl) h (fun M h => ?_)
      rw [if_pos rfl]
      exact b346 M h
  have b279 : ∀ M, St1 M0 D M → Tot (f_L_refuses_b279 (iz (gS (dP D) : Int)) (iz (gB (dP D) : Int)) M) (fun x => x.1 = 1 ∧ St1 M0 D x.2) := fun M h => by
    unfold f_L_refuses_b279 f_L_refuses_b284
    rw [if_neg (by decide)]
    refine stp (e_ins hD (v := ((gB (dP D) + 1 : Nat) : Int)) (a1z _) (by omega) (by omega) (by omega)) h (fun M h => ?_)
    rw [if_pos rfl]
    by_cases c : gB (dP D) < 16
    · rw [if_pos (by rw [show (16 : Int32) = iz ((16 : Nat) : Int) from rfl, ltz (by omega) (by omega)]; exact c)]
      exact b319 M h
    · rw [if_neg (by rw [show (16 : Int32) = iz ((16 : Nat) : Int) from rfl, ltz (by omega) (by omega)]; exact c)]
      refine stp (a_insN hD (t := 0) (by omega) c rfl) h (fun M h => ?_)
      rw [if_pos rfl]
      exact b319 M h
  have b263 : ∀ M, St1 M0 D M → Tot (f_L_refuses_b263 (iz (gS (dP D) : Int)) (iz (gB (dP D) : Int)) M) (fun x => x.1 = 1 ∧ St1 M0 D x.2) := fun M h => by
    unfold f_L_refuses_b263
    by_cases c : 1 < gS (dP D)
    · rw [if_pos (by rw [show (1 : Int32) = iz ((1 : Nat) : Int) from rfl, ltz (by omega) (by omega)]; exact c)]
      exact b279 M h
    · rw [if_neg (by rw [show (1 : Int32) = iz ((1 : Nat) : Int) from rfl, ltz (by omega) (by omega)]; exact c)]
      refine stp (a_lessN hD c) h (fun M h => ?_)
      rw [if_pos rfl]
      exact b279 M h
  unfold f_L_refuses
  refine stp (a_S hD) h (fun M h => ?_)
  refine stp (a_B hD) h (fun M h => ?_)
  refine stp (e_about hD (v := 10) rfl (by omega) (by omega) (by omega)) h (fun M h => ?_)
  rw [if_pos rfl]
  refine stp (e_cell hD (s := gS (dP D)) (b := 0) rfl (by omega) (by omega) rfl (by omega) (by omega) 1 (by omega)) h (fun M h => ?_)
  rw [if_pos rfl]
  refine stp (e_cell hD (s := 0) (b := gB (dP D)) rfl (by omega) (by omega) rfl (by omega) (by omega) 0 (by omega)) h (fun M h => ?_)
  rw [if_pos rfl]
  refine stp (e_set hD (a := 6) (v := 0) rfl (by omega) (by omega) rfl (by omega) (by omega) (by omega)) h (fun M h => ?_)
  rw [if_pos rfl]
  refine stp (e_set hD (a := 0) (v := 25) rfl (by omega) (by omega) rfl (by omega) (by omega) (by omega)) h (fun M h => ?_)
  rw [if_pos rfl]
  refine stp (e_set hD (a := 1) (v := 0) rfl (by omega) (by omega) rfl (by omega) (by omega) (by omega)) h (fun M h => ?_)
  rw [if_pos rfl]
  refine stp (e_set hD (a := 2) (v := 6) rfl (by omega) (by omega) rfl (by omega) (by omega) (by omega)) h (fun M h => ?_)
  rw [if_pos rfl]
  refine stp (e_set hD (a := 3) (v := 10) rfl (by omega) (by omega) rfl (by omega) (by omega) (by omega)) h (fun M h => ?_)
  rw [if_pos rfl]
  refine stp (e_set hD (a := 4) (v := 2) rfl (by omega) (by omega) rfl (by omega) (by omega) (by omega)) h (fun M h => ?_)
  rw [if_pos rfl]
  refine stp (e_set hD (a := 5) (v := -1) rfl (by omega) (by omega) rfl (by omega) (by omega) (by omega)) h (fun M h => ?_)
  rw [if_pos rfl]
  refine stp (e_write1 hD (s := gS (dP D)) (b := 0) (v := 61) rfl (by omega) (by omega) rfl (by omega) (by omega) rfl (by omega) (by omega) (by omega)) h (fun M h => ?_)
  rw [if_pos rfl]
  refine stp (e_write1 hD (s := 0) (b := gB (dP D)) (v := 0) rfl (by omega) (by omega) rfl (by omega) (by omega) rfl (by omega) (by omega) (by omega)) h (fun M h => ?_)
  rw [if_pos rfl]
  refine stp (e_write2 hD (s := 0) (b := 0) (v := 61) rfl (by omega) (by omega) rfl (by omega) (by omega) rfl (by omega) (by omega) (by omega) (by omega)) h (fun M h => ?_)
  rw [if_pos rfl]
  refine stp (e_write2 hD (s := 0) (b := 0) (v := -2) rfl (by omega) (by omega) rfl (by omega) (by omega) rfl (by omega) (by omega) (by omega) (by omega)) h (fun M h => ?_)
  rw [if_pos rfl]
  refine stp (e_write3 hD (s := 0) (b := 0) (v := 99) rfl (by omega) (by omega) rfl (by omega) (by omega) rfl (by omega) (by omega) (by omega) (by omega) (fun z => by rcases z with z | z; exact z rfl; exact absurd z.1 (Nat.lt_irrefl 0))) h (fun M h => ?_)
  rw [if_pos rfl]
  refine stp (e_trans1 hD (s := gS (dP D)) (d := 61) rfl (by omega) (by omega) rfl (by omega) (by omega) (by omega)) h (fun M h => ?_)
  rw [if_pos rfl]
  refine stp (e_trans2 hD (s := 0) (d := 61) rfl (by omega) (by omega) rfl (by omega) (by omega) (by omega) (by omega)) h (fun M h => ?_)
  rw [if_pos rfl]
  refine stp (e_exch2 hD (s := 0) (d := gS (dP D)) rfl (by omega) (by omega) rfl (by omega) (by omega) (by omega) (by omega)) h (fun M h => ?_)
  rw [if_pos rfl]
  by_cases c : gS (dP D) < 4
  · rw [if_pos (by rw [show (4 : Int32) = iz ((4 : Nat) : Int) from rfl, ltz (by omega) (by omega)]; exact c)]
    exact b263 M h
  · rw [if_neg (by rw [show (4 : Int32) = iz ((4 : Nat) : Int) from rfl, ltz (by omega) (by omega)]; exact c)]
    refine stp (a_moreN hD c) h (fun M h => ?_)
    rw [if_pos rfl]
    exact b263 M h
end REF
