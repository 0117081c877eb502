/-! BEATS: beat by beat -/
noncomputable def hR (P : Pg) (b h : Nat) : Int := if ro P b h (sq P b) then 1 else 0
noncomputable def hV (P : Pg) (b h : Nat) : Int := mv P b (bef P b) h (sq P b)
section BG
variable {D : Ds} {M0 : Mem} {r : Nat → Int} {Q : Int32 × Mem → Prop}
variable {k31 : Int32 → Int32 → Int32 → Int32 → Int32 → Int32 → Int32 → Mem → Option (Int32 × Mem)} {v2 v3 v4 v5 v6 v11 v12 : Int32}
theorem beat_hands (hD : DOk D) {b : Nat} (hb : b < gB (dP D)) {r4 r5 : Int} {M : Mem} (hM : B4 M0 D r M)
    (hK : ∀ M, B4 M0 D r M → Tot (f_L_beats_b472 (iz (gS (dP D) : Int)) v2 v3 (iz (r4 + (nro (dP D) b (sq (dP D) b)))) (iz (r5 + (mv (dP D) b (bef (dP D) b) 0 (sq (dP D) b) + mv (dP D) b (bef (dP D) b) 1 (sq (dP D) b)))) v6 1 (iz (b : Int)) (iz (sq (dP D) b : Int)) (iz (nn (dP D) b : Int)) (iz (5 * (nro (dP D) b (sq (dP D) b)) + (mv (dP D) b (bef (dP D) b) 0 (sq (dP D) b) + mv (dP D) b (bef (dP D) b) 1 (sq (dP D) b)))) k31 M) Q) : Tot (lq6 (f_L_beats_b65 (iz (gS (dP D) : Int)) v2 v3 v6 (iz (b : Int)) (iz (sq (dP D) b : Int)) k31) 3 (iz r4) (iz r5) 1 0 0 (iz ((0 : Nat) : Int)) M) Q := by
  refine up6_tot 2 (fun i a0 a1 a2 a3 a4 M' => a0 = iz (r4 + sg (hR (dP D) b) i) ∧ a1 = iz (r5 + sg (hV (dP D) b) i) ∧ a2 = 1 ∧ a3 = iz (sg (nK (dP D) b) i) ∧ a4 = iz (sg (fun h => 5 * hR (dP D) b h + hV (dP D) b h) i) ∧ B4 M0 D r M') ?_ ?_ 3 0 _ _ _ _ _ M (by omega) ⟨by rw [show sg (hR (dP D) b) 0 = 0 from rfl, Int.add_zero], by rw [show sg (hV (dP D) b) 0 = 0 from rfl, Int.add_zero], rfl, rfl, rfl, hM⟩ (by omega)
  · intro k65 h a0 a1 a2 a3 a4 M hh ⟨e0, e1, e2, e3, e4, hM⟩ hK2
    subst e0 e1 e2 e3 e4
    unfold f_L_beats_b65
    rw [if_neg (by rw [show (2 : Int32) = iz ((2 : Nat) : Int) from rfl, lez (by omega) (by omega)]; omega), if_neg (by decide)]
    refine hand_loop hD hb hh hM (fun n lo hi hd M H hM => ?_)
    refine hand_rest hD hb hh H hM (fun M hM => ?_)
    refine hK2 _ _ _ _ _ M ⟨?_, ?_, rfl, ?_, ?_, hM⟩
    · rw [iz_add, Int.add_assoc]; rfl
    · rw [iz_add, Int.add_assoc]; rfl
    · rw [iz_add]; rfl
    · rw [iz_add]; rfl
  · intro k65 a0 a1 a2 a3 a4 M ⟨e0, e1, e2, e3, e4, hM⟩
    subst e0 e1 e2 e3 e4
    unfold f_L_beats_b65
    rw [if_pos (show (2 : Int32) ≤ iz ((2 : Nat) : Int) from Int32.le_refl _)]
    have x0 : sg (hR (dP D) b) 2 = (nro (dP D) b (sq (dP D) b)) := by
      show (0 + hR (dP D) b 0) + hR (dP D) b 1 = hR (dP D) b 0 + hR (dP D) b 1
      omega
    have x1 : sg (hV (dP D) b) 2 = (mv (dP D) b (bef (dP D) b) 0 (sq (dP D) b) + mv (dP D) b (bef (dP D) b) 1 (sq (dP D) b)) := by
      show (0 + hV (dP D) b 0) + hV (dP D) b 1 = hV (dP D) b 0 + hV (dP D) b 1
      omega
    have x3 : sg (nK (dP D) b) 2 = (nn (dP D) b : Int) := by
      show (0 + (sq (dP D) b : Int)) + ((nn (dP D) b : Int) - sq (dP D) b) = nn (dP D) b
      omega
    have x4 : sg (fun h => 5 * hR (dP D) b h + hV (dP D) b h) 2 = 5 * (nro (dP D) b (sq (dP D) b)) + (mv (dP D) b (bef (dP D) b) 0 (sq (dP D) b) + mv (dP D) b (bef (dP D) b) 1 (sq (dP D) b)) := by
      show (0 + (5 * hR (dP D) b 0 + hV (dP D) b 0)) + (5 * hR (dP D) b 1 + hV (dP D) b 1) = 5 * (hR (dP D) b 0 + hR (dP D) b 1) + (hV (dP D) b 0 + hV (dP D) b 1)
      omega
    rw [x0, x1, x3, x4]
    exact hK M hM
theorem beat_split (hD : DOk D) {b : Nat} (hb : b < gB (dP D)) {M : Mem} (hM : B4 M0 D r M)
    (hK : ∀ M, B4 M0 D r M → Tot (lq5 (f_L_beats_b527 (iz (gS (dP D) : Int)) v2 v4 v5 (iz (b : Int)) (iz (sq (dP D) b : Int)) (iz (nn (dP D) b : Int)) k31) 5 v3 v6 1 v12 (iz ((0 : Nat) : Int)) M) Q) : Tot (f_L_beats_b472 (iz (gS (dP D) : Int)) v2 v3 v4 v5 v6 1 (iz (b : Int)) (iz (sq (dP D) b : Int)) (iz (nn (dP D) b : Int)) v12 k31 M) Q := by
  have hP := hD.2.2.1
  have hq := sq_in hP hb
  have n4 := nn_4 hP hb
  have c517 : ∀ M, B4 M0 D r M → Tot (f_L_beats_b517 (iz (gS (dP D) : Int)) v2 v3 v4 v5 v6 (iz (b : Int)) (iz (sq (dP D) b : Int)) (iz (nn (dP D) b : Int)) v12 k31 M) Q := fun M hM => by
    unfold f_L_beats_b517 f_L_beats_b522
    exact hK M hM
  unfold f_L_beats_b472
  rw [if_neg (by decide)]
  by_cases z : sq (dP D) b = 0
  · rw [if_pos (by rw [z]; rfl)]
    exact c517 M hM
  · rw [if_neg (by rw [q0 (by omega) (by omega)]; omega)]
    by_cases y : sq (dP D) b = nn (dP D) b
    · rw [if_pos (by rw [y])]
      exact c517 M hM
    · rw [if_neg (by rw [iz_eq (by omega) (by omega) (by omega) (by omega)]; omega)]
      refine stp4 (a_hand hD (h := 0) (by omega) hb (w := 1) (by omega) rfl rfl rfl) hM (fun M hM => ?_)
      refine stp4 (a_hand hD (h := 0) (by omega) hb (w := 2) (by omega) rfl rfl rfl) hM (fun M hM => ?_)
      refine stp4 (a_hand hD (h := 1) (by omega) hb (w := 1) (by omega) rfl rfl rfl) hM (fun M hM => ?_)
      have e1 : nHand (dP D) 0 b 1 = pt (dP D) b (rho (dP D) b) 0 := by
        show ps (dP D) b 0 (sq (dP D) b) = _
        rw [ps_K (by omega)]
        show (if 0 < sq (dP D) b then pt (dP D) b (rho (dP D) b) 0 else -9) = _
        rw [if_pos (by omega)]
      have e2 : nHand (dP D) 0 b 2 = pt (dP D) b (rho (dP D) b) (sq (dP D) b - 1) - pt (dP D) b (rho (dP D) b) 0 := by
        show wd (dP D) b 0 (sq (dP D) b) = _
        rw [wd_K (by omega)]
        show (if 0 < sq (dP D) b then pt (dP D) b (rho (dP D) b) (sq (dP D) b - 1) - pt (dP D) b (rho (dP D) b) 0 else 0) = _
        rw [if_pos (by omega)]
      have e3 : nHand (dP D) 1 b 1 = pt (dP D) b (rho (dP D) b) (sq (dP D) b) := by
        show ps (dP D) b 1 (sq (dP D) b) = _
        rw [ps_K (by omega)]
        show (if sq (dP D) b < nn (dP D) b then pt (dP D) b (rho (dP D) b) (sq (dP D) b) else -9) = _
        rw [if_pos (by omega)]
      have mo := row_mono hP hb (show sq (dP D) b - 1 ≤ sq (dP D) b by omega) (by omega)
      have c1 := pt_c hP hb (show sq (dP D) b < nn (dP D) b by omega)
      have c2 := pt_c hP hb (show sq (dP D) b - 1 < nn (dP D) b by omega)
      rw [e1, e2, e3, iz_add, if_neg (by rw [iz_lt (by omega) (by omega) (by omega) (by omega)]; omega)]
      exact c517 M hM
theorem beat_staves (hD : DOk D) {b : Nat} (hb : b < gB (dP D)) {c st he : Int} {M : Mem} (hM : B4 M0 D r M)
    (hK : ∀ M, B4 M0 D (fun j => r j + sg (fun s => if rho (dP D) b s = (j : Int) then 1 else 0) (gS (dP D))) M → Tot (f_L_beats_b1116 (iz (gS (dP D) : Int)) v2 (iz (c + (sg (fun s => b01 (cutH (dP D) b s)) (gS (dP D))))) v4 v5 (iz (st + (sg (fun s => stk (dP D) b s (rho (dP D) b s) (cutH (dP D) b s)) (gS (dP D))))) 1 (iz (b : Int)) (iz (sq (dP D) b : Int)) v11 (iz (he + 10 * (sg (fun s => b01 (cutH (dP D) b s)) (gS (dP D))))) k31 M) Q) : Tot (lq5 (f_L_beats_b527 (iz (gS (dP D) : Int)) v2 v4 v5 (iz (b : Int)) (iz (sq (dP D) b : Int)) v11 k31) 5 (iz c) (iz st) 1 (iz he) (iz ((0 : Nat) : Int)) M) Q := by
  have hP := hD.2.2.1
  have h1 := hP.1.1.1
  refine up5_tot (gS (dP D)) (fun t a0 a1 a2 a3 M' => a0 = iz (c + (sg (fun s => b01 (cutH (dP D) b s)) t)) ∧ a1 = iz (st + (sg (fun s => stk (dP D) b s (rho (dP D) b s) (cutH (dP D) b s)) t)) ∧ a2 = 1 ∧ a3 = iz (he + 10 * (sg (fun s => b01 (cutH (dP D) b s)) t)) ∧ B4 M0 D (fun j => r j + sg (fun s => if rho (dP D) b s = (j : Int) then 1 else 0) t) M') ?_ ?_ 5 0 _ _ _ _ M (by omega) ⟨by rw [show ∀ f, sg f 0 = 0 from fun _ => rfl, Int.add_zero], by rw [show ∀ f, sg f 0 = 0 from fun _ => rfl, Int.add_zero], rfl, by rw [show ∀ f, sg f 0 = 0 from fun _ => rfl, Int.mul_zero, Int.add_zero], hM.to (fun j _ _ => Int.add_zero _)⟩ (by omega)
  · intro K t a0 a1 a2 a3 M ht ⟨e0, e1, e2, e3, hM⟩ hK2
    subst e0 e1 e2 e3
    refine staff_step hD hb ht hM (fun M hM => ?_)
    refine hK2 _ _ _ _ M ⟨?_, ?_, rfl, ?_, hM.to (fun j _ _ => ?_)⟩
    · rw [Int.add_assoc]; rfl
    · rw [Int.add_assoc]; rfl
    · congr 1
      show _ = he + 10 * ((sg (fun s => b01 (cutH (dP D) b s)) t) + (b01 (cutH (dP D) b t)))
      omega
    · show r j + ((sg (fun s => if rho (dP D) b s = (j : Int) then (1 : Int) else 0) t) + (if rho (dP D) b t = (j : Int) then 1 else 0)) = _
      rw [Int.add_assoc]
  · intro K a0 a1 a2 a3 M ⟨e0, e1, e2, e3, hM⟩
    subst e0 e1 e2 e3
    unfold f_L_beats_b527
    rw [if_pos (Int32.le_refl _)]
    exact hK M hM
theorem beat_set (hD : DOk D) {b : Nat} (hb : b < gB (dP D)) {M : Mem} (hM : B4 M0 D r M)
    (hK : ∀ M, B4 M0 D r M → Tot (k31 (v2 + (iz (co (dP D) b (bef (dP D) b) (sq (dP D) b)))) v3 v4 v5 v6 1 (iz ((b + 1 : Nat) : Int)) M) Q) : Tot (f_L_beats_b1116 (iz (gS (dP D) : Int)) v2 v3 v4 v5 v6 1 (iz (b : Int)) (iz (sq (dP D) b : Int)) (iz (nn (dP D) b : Int)) (iz (co (dP D) b (bef (dP D) b) (sq (dP D) b))) k31 M) Q := by
  have hP := hD.2.2.1
  have hq := sq_in hP hb
  have n4 := nn_4 hP hb
  have eS : (pkm (dP D) b (rho (dP D) b)) = mf (fun k => decide (pkk (dP D) b k)) := rfl
  have bit : ∀ k : Nat, k < 5 → (((pkm (dP D) b (rho (dP D) b)) >>> (iz (k : Int) &&& 31)) &&& 1) = iz (b01 (decide (pkk (dP D) b k))) := fun k hk => by
    rw [eS]
    exact mf_bitz (fun k => decide (pkk (dP D) b k)) hk
  have c1155 : ∀ M, B4 M0 D r M → Tot (f_L_beats_b1155 (iz (gS (dP D) : Int)) v2 v3 v4 v5 v6 1 (iz (b : Int)) (iz (sq (dP D) b : Int)) (iz (nn (dP D) b : Int)) (iz (co (dP D) b (bef (dP D) b) (sq (dP D) b))) (pkm (dP D) b (rho (dP D) b)) (iz (sg (fun k => b01 (decide (pkk (dP D) b k))) 5)) k31 M) Q := fun M hM => by
    unfold f_L_beats_b1155
    rw [if_neg (by decide)]
    refine stp4 (a_beat hD hb (w := 3) (by omega) rfl rfl) hM (fun M hM => ?_)
    rw [if_pos (show (iz (nn (dP D) b : Int)) = nBeat (dP D) b 3 from rfl)]
    refine stp4 (a_beat hD hb (w := 2) (by omega) rfl rfl) hM (fun M hM => ?_)
    rw [if_pos (show (iz (co (dP D) b (bef (dP D) b) (sq (dP D) b))) = nBeat (dP D) b 2 from rfl)]
    refine stp4 (a_beat hD hb (w := 1) (by omega) rfl rfl) hM (fun M hM => ?_)
    rw [if_pos (show iz (sg (fun k => b01 (decide (pkk (dP D) b k))) 5) = nBeat (dP D) b 1 by
      rw [nf_sg (fun k => decide (pkk (dP D) b k))]; rfl)]
    rw [if_pos (show (((pkm (dP D) b (rho (dP D) b)) >>> ((iz (sq (dP D) b : Int)) &&& 31)) &&& 1) = 1 by rw [bit _ hq.1, decide_eq_true hq.2.2]; rfl)]
    rw [if_neg (by
      rw [eS]
      exact mf_lt (fun k => decide (pkk (dP D) b k)) n4 (fun k h1 _ => decide_eq_false (fun z => by
        have z1 : k ≤ nn (dP D) b := z.1
        omega)))]
    unfold f_L_beats_b1223
    rw [a1z]
    exact hK M hM
  unfold f_L_beats_b1116
  refine stp4 (a_beat hD hb (w := 4) (by omega) rfl rfl) hM (fun M hM => ?_)
  rw [show nBeat (dP D) b 4 = (pkm (dP D) b (rho (dP D) b)) from rfl]
  refine up2_tot 5 (fun i a M' => a = iz (sg (fun k => b01 (decide (pkk (dP D) b k))) i) ∧ B4 M0 D r M') ?_ ?_ 6 0 _ M (by omega) ⟨rfl, hM⟩ (by omega)
  · intro k1131 k a M hk ⟨e, hM⟩ hK2
    subst e
    unfold f_L_beats_b1131
    rw [if_neg (by rw [show (5 : Int32) = iz ((5 : Nat) : Int) from rfl, lez (by omega) (by omega)]; omega), bit k hk, iz_add, a1z]
    exact hK2 _ M ⟨rfl, hM⟩
  · intro k1131 a M ⟨e, hM⟩
    subst e
    unfold f_L_beats_b1131
    rw [if_pos (show (5 : Int32) ≤ iz ((5 : Nat) : Int) from Int32.le_refl _)]
    exact c1155 M hM
theorem beat_all (hD : DOk D) {b : Nat} (hb : b < gB (dP D)) {c0 c4 c5 c6 c7 : Int} {M : Mem} (hM : B4 M0 D r M) {K : Int32 → Int32 → Int32 → Int32 → Int32 → Int32 → Int32 → Mem → Option (Int32 × Mem)}
    (hK : ∀ M, B4 M0 D (fun j => r j + shW (dP D) b j) M → Tot (K (iz (c0 + shW (dP D) b 0)) (iz (c4 + shW (dP D) b 4)) (iz (c5 + shW (dP D) b 5)) (iz (c6 + shW (dP D) b 6)) (iz (c7 + shW (dP D) b 7)) 1 (iz ((b + 1 : Nat) : Int)) M) Q) : Tot (f_L_beats_b31 (iz (gS (dP D) : Int)) K (iz c0) (iz c4) (iz c5) (iz c6) (iz c7) 1 (iz (b : Int)) M) Q := by
  have hP := hD.2.2.1
  have h2 := hP.1.1.2
  have cs := cuts_sum hP hb
  have ss := struck_sum hP hb
  have s4 : shW (dP D) b 4 = (sg (fun s => b01 (cutH (dP D) b s)) (gS (dP D))) := cs
  have s7 : shW (dP D) b 7 = (sg (fun s => stk (dP D) b s (rho (dP D) b s) (cutH (dP D) b s)) (gS (dP D))) := ss
  have s0 : shW (dP D) b 0 = (5 * (nro (dP D) b (sq (dP D) b)) + (mv (dP D) b (bef (dP D) b) 0 (sq (dP D) b) + mv (dP D) b (bef (dP D) b) 1 (sq (dP D) b))) + 10 * (sg (fun s => b01 (cutH (dP D) b s)) (gS (dP D))) := by
    rw [← cs]
    show 10 * nf (cutH (dP D) b) + 5 * (nro (dP D) b (sq (dP D) b)) + mv (dP D) b (bef (dP D) b) 0 (sq (dP D) b) + mv (dP D) b (bef (dP D) b) 1 (sq (dP D) b) = _
    omega
  unfold f_L_beats_b31
  refine stp4 (a_B hD) hM (fun M hM => ?_)
  rw [if_neg (by rw [lez (by omega) (by omega)]; omega), if_neg (by decide)]
  refine stp4 (a_beat hD hb (w := 0) (by omega) rfl rfl) hM (fun M hM => ?_)
  rw [show nBeat (dP D) b 0 = (iz (sq (dP D) b : Int)) from rfl]
  refine beat_hands hD hb hM (fun M hM => ?_)
  refine beat_split hD hb hM (fun M hM => ?_)
  refine beat_staves hD hb hM (fun M hM => ?_)
  rw [← s0]
  refine beat_set hD hb hM (fun M hM => ?_)
  rw [show (iz (co (dP D) b (bef (dP D) b) (sq (dP D) b))) = iz (shW (dP D) b 0) from rfl, iz_add, ← s4, ← s7]
  refine hK M (hM.to (fun j h1 h4 => ?_))
  show r j + shW (dP D) b j = r j + sg (fun s => if rho (dP D) b s = (j : Int) then 1 else 0) (gS (dP D))
  rw [← out_sum hP]
  unfold shW
  rw [if_neg (by omega), if_neg (by omega), if_neg (by omega), if_neg (by omega), if_neg (by omega)]
end BG
theorem beats_ok {D : Ds} (hD : DOk D) : AkO f_L_beats D 1 D := ak_of hD (fun M0 M hM => by
  have hP := hD.2.2.1
  have h2 := hP.1.1.2
  unfold f_L_beats
  refine stp (a_S hD) hM (fun M hM => ?_)
  have hM4 : B4 M0 D (fun _ => 0) (ms M 43 (fun _ => 0)) := by
    have ne : ∀ d, d ≠ 43 → ms M 43 (fun _ => 0) d = M d := fun d hd => by unfold ms; rw [if_neg hd]
    refine ⟨hM.1.same (fun d hd => ne d (by unfold CI at hd; omega)), fun d hd => ?_, fun j _ _ => ?_⟩
    · rw [ne d (fun z => hd (Or.inr z))]
      exact hM.2 d hd
    · unfold ms
      rw [if_pos rfl]; rfl
  refine up7_tot (gB (dP D)) (fun b a0 a1 a2 a3 a4 a5 M' => a0 = iz (sg (fun b => shW (dP D) b 0) b) ∧ a1 = iz (sg (fun b => shW (dP D) b 4) b) ∧ a2 = iz (sg (fun b => shW (dP D) b 5) b) ∧ a3 = iz (sg (fun b => shW (dP D) b 6) b) ∧ a4 = iz (sg (fun b => shW (dP D) b 7) b) ∧ a5 = 1 ∧ B4 M0 D (fun j => sg (fun b => shW (dP D) b j) b) M') ?_ ?_ 17 0 _ _ _ _ _ _ _ (by omega) ⟨rfl, rfl, rfl, rfl, rfl, rfl, hM4⟩ (by omega)
  · intro K b a0 a1 a2 a3 a4 a5 M hb ⟨e0, e1, e2, e3, e4, e5, hM⟩ hK2
    subst e0 e1 e2 e3 e4 e5
    refine beat_all hD hb hM (fun M hM => ?_)
    exact hK2 _ _ _ _ _ _ M ⟨rfl, rfl, rfl, rfl, rfl, rfl, hM⟩
  · intro K a0 a1 a2 a3 a4 a5 M ⟨e0, e1, e2, e3, e4, e5, hM⟩
    subst e0 e1 e2 e3 e4 e5
    have st1 : ∀ {M : Mem}, B4 M0 D (fun j => sg (fun b => shW (dP D) b j) (gB (dP D))) M → ∀ j, 1 ≤ j → j < 4 → M 43 j = iz (nWhole (dP D) j) := fun h j h1 h4 => h.2.2 j h1 h4
    unfold f_L_beats_b31
    refine stp4 (a_B hD) hM (fun M hM => ?_)
    rw [if_pos (Int32.le_refl _)]
    unfold f_L_beats_b1236
    rw [if_neg (by decide)]
    refine stp4 (a_whole hD (w := 0) (by omega) rfl) hM (fun M1 hM1 => ?_)
    rw [if_pos (show iz (sg (fun b => shW (dP D) b 0) (gB (dP D))) = iz (nWhole (dP D) 0) from rfl), if_pos (show inb 1 4 from inb_n (n := 1) (by omega) (by omega))]
    refine stp4 (a_whole hD (w := 1) (by omega) rfl) hM1 (fun M2 hM2 => ?_)
    rw [if_pos (show M1 43 (Int32.toNatClampNeg 1) = iz (nWhole (dP D) 1) from st1 hM1 1 (by omega) (by omega)), if_pos (show inb 2 4 from inb_n (n := 2) (by omega) (by omega))]
    refine stp4 (a_whole hD (w := 2) (by omega) rfl) hM2 (fun M3 hM3 => ?_)
    rw [if_pos (show M2 43 (Int32.toNatClampNeg 2) = iz (nWhole (dP D) 2) from st1 hM2 2 (by omega) (by omega)), if_pos (show inb 3 4 from inb_n (n := 3) (by omega) (by omega))]
    refine stp4 (a_whole hD (w := 3) (by omega) rfl) hM3 (fun M4 hM4 => ?_)
    rw [if_pos (show M3 43 (Int32.toNatClampNeg 3) = iz (nWhole (dP D) 3) from st1 hM3 3 (by omega) (by omega))]
    refine stp4 (a_whole hD (w := 4) (by omega) rfl) hM4 (fun M5 hM5 => ?_)
    rw [if_pos (show iz (sg (fun b => shW (dP D) b 4) (gB (dP D))) = iz (nWhole (dP D) 4) from rfl)]
    refine stp4 (a_whole hD (w := 5) (by omega) rfl) hM5 (fun M6 hM6 => ?_)
    rw [if_pos (show iz (sg (fun b => shW (dP D) b 5) (gB (dP D))) = iz (nWhole (dP D) 5) from rfl)]
    refine stp4 (a_whole hD (w := 6) (by omega) rfl) hM6 (fun M7 hM7 => ?_)
    rw [if_pos (show iz (sg (fun b => shW (dP D) b 6) (gB (dP D))) = iz (nWhole (dP D) 6) from rfl)]
    refine stp4 (a_whole hD (w := 7) (by omega) rfl) hM7 (fun M8 hM8 => ?_)
    rw [if_pos (show iz (sg (fun b => shW (dP D) b 7) (gB (dP D))) = iz (nWhole (dP D) 7) from rfl)]
    exact ak_end ⟨hM8.1, hM8.2.1⟩)
