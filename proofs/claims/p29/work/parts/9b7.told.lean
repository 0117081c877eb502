/-! MUSIC IS TOLD TO BOTH -/
theorem and_31 (x : Int32) : ∃ n : Nat, n < 2147483648 ∧ x &&& 2147483647 = iz (n : Int) := by
  have h1 : (x &&& 2147483647).toBitVec.toNat ≤ 2147483647 := by
    rw [Int32.toBitVec_and, BitVec.toNat_and]
    exact Nat.and_le_right
  have e : (x &&& 2147483647).toInt = ((x &&& 2147483647).toBitVec.toNat : Int) := by
    show (x &&& 2147483647).toBitVec.toInt = _
    rw [BitVec.toInt_eq_toNat_of_lt (by omega)]
  refine ⟨(x &&& 2147483647).toBitVec.toNat, by omega, ?_⟩
  rw [← e, iz_self]
theorem number_ok {scr : Nat → Int32} {scl a : Nat} (hl : scl ≤ 260) (ha : a < 1000) (M : Mem) : ∃ n : Nat, n < 2147483648 ∧ f_L_number scr scl (iz (a : Int)) M = some (iz (n : Int), M) := by
  unfold f_L_number
  have e : Int32.ofNat scl = iz (scl : Int) := (Int32.ofInt_eq_ofNat).symm
  rw [e]
  by_cases c : scl ≤ a
  · rw [if_pos (by rw [lez (by omega) (by omega)]; exact c)]
    obtain ⟨n, h1, h2⟩ := and_31 ((15515123 * (iz (a : Int) + 5)) + 9887)
    exact ⟨n, h1, by rw [h2]⟩
  · rw [if_neg (by rw [lez (by omega) (by omega)]; exact c), if_pos (inb_n (by omega) (by omega))]
    obtain ⟨n, h1, h2⟩ := and_31 (scr (Int32.toNatClampNeg (iz (a : Int))))
    exact ⟨n, h1, by rw [h2]⟩
theorem stp_put {β : Type} {D : Ds} (hD : DOk D) {x : Int32} {c : Int} (hx : x = iz c) (hc : 0 ≤ c ∧ c ≤ 255) (hN : dN D < 140) {M : Mem} (h : S2 D D M) {K : Int32 → Mem → Option β} {Q : β → Prop} (k : ∀ M', DOk (dApp D c) → S2 (dApp D c) (dApp D c) M' → Tot (K 1 M') Q) : Tot (ob (f_L_put x M) K) Q := by
  have a := a_app hD hc hN hx
  have nz : ¬ (iz ((dN D + 1 : Nat) : Int) ≤ 0) := by rw [show (0 : Int32) = iz ((0 : Nat) : Int) from rfl, lez (by omega) (by omega)]; omega
  have g : Tot (f_L_put x M) (fun r => r.1 = 1 ∧ S2 (dApp D c) (dApp D c) r.2) := by
    unfold f_L_put
    refine stp_p a h (fun M2 h => ?_)
    rw [if_neg nz]
    refine stp_q a h (fun M4 h => ?_)
    rw [if_neg nz]
    exact Tot.mk ⟨rfl, h⟩
  refine Tot.ob (g.mono ?_)
  intro ⟨r, M'⟩ ⟨e, h⟩
  have e : r = 1 := e
  subst e
  exact k M' a.1 h
def pvF (T : Tx) (B t b : Nat) : Int32 := if pvs (Rd T B t b).2.2 t b = -9 then 1 else 0
theorem pvs_next (c : Nat → Nat → Int) (t b : Nat) (v : Int) : pvs (cset c t b v) t (b + 1) = v := by
  show (if b + 1 = 0 then (-9 : Int) else cset c t b v t (b + 1 - 1)) = v
  rw [if_neg (by omega), Nat.add_sub_cancel]
  show (if t = t ∧ b = b then v else c t b) = v
  rw [if_pos ⟨rfl, rfl⟩]
section TOLD
variable {scr : Nat → Int32} {scl a S B : Nat}
/-- the rows so far -/
def TJ (S B t : Nat) (size notes : Int32) (M : Mem) : Prop := ∃ (D : Ds) (k : Nat), DOk D ∧ Tg D.1 S B t 0 ∧ size = iz (dN D : Int) ∧ notes = iz (k : Int) ∧ nAll (Rd D.1 B t 0).2.2 S B = k ∧ dN D ≤ 4 + 18 * t ∧ k ≤ 9 * t ∧ S2 D D M
def TI (S B t b : Nat) (size notes rests : Int32) (M : Mem) : Prop := ∃ (D : Ds) (k : Nat), DOk D ∧ Tg D.1 S B t b ∧ size = iz (dN D : Int) ∧ notes = iz (k : Int) ∧ rests = pvF D.1 B t b ∧ nAll (Rd D.1 B t b).2.2 S B = k ∧ dN D ≤ 4 + 18 * t + 2 * b ∧ k ≤ 9 * t + b ∧ S2 D D M
def TE (x : Int32 × Mem) : Prop := x.1 = 1 ∧ ∃ D, DOk D ∧ S2 D D x.2
theorem told_end (hS : 1 ≤ S ∧ S ≤ 4) (hBd : 1 ≤ B ∧ B ≤ 9) {size notes : Int32} {M : Mem} (h : TJ S B S size notes M) : Tot (f_L_told_b363 scr scl (iz (S : Int)) (iz (B : Int)) 1 size notes M) TE := by
  obtain ⟨D, k, hD, hT, rfl, rfl, hk, hN, hk9, h⟩ := h
  have hN' : D.1.1 = dN D := rfl
  have er := hT.full
  have hOk := hOk_of hT.1 hS hBd
  have eS : gS (rdP D.1) = S := by
    show (dig D.1 1).toNat = S
    rw [hT.1.2.1]; rfl
  have eB : gB (rdP D.1) = B := by
    show (hB D.1).toNat = B
    rw [hOk.2]; rfl
  have hL := a_load hD er
  have eN : nAbout (dP (dLoad D)) 8 = k := by
    show nPits (rdP D.1) (gS (rdP D.1)) = k
    have ef : fin D.1 = Rd D.1 B S 0 := fin_of hT.1 hS hBd
    rw [eS, ← hk]
    show sg (fun s => sg (fun b => if pit ((fin D.1).2.2 s b) then 1 else 0) (gB (rdP D.1))) S = _
    rw [eB, ef]
    rfl
  unfold f_L_told_b363
  rw [if_neg (by decide)]
  refine stp_p (a_err hD) h (fun M2 h => ?_)
  rw [er, if_pos (show (iz (-9) : Int32) = -9 from rfl)]
  refine stp_p hL h (fun M4 h => ?_)
  rw [eB, if_pos rfl]
  refine stp_q hL h (fun M6 h => ?_)
  rw [eB, if_pos rfl]
  have hE := hL.1
  refine stp_p (a_about hE (w := 6) (by omega) rfl) h (fun M8 h => ?_)
  rw [show nAbout (dP (dLoad D)) 6 = (gS (rdP D.1) : Int) from rfl, eS, if_pos rfl]
  refine stp_p (a_about hE (w := 7) (by omega) rfl) h (fun M10 h => ?_)
  rw [show nAbout (dP (dLoad D)) 7 = (gB (rdP D.1) : Int) from rfl, eB, if_pos rfl]
  refine stp_p (a_about hE (w := 8) (by omega) rfl) h (fun M12 h => ?_)
  rw [eN, if_pos rfl]
  refine stp_p (a_about hE (w := 0) (by omega) rfl) h (fun M14 h => ?_)
  rw [show nAbout (dP (dLoad D)) 0 = 12 from rfl, if_pos (show (iz 12 : Int32) = 12 from rfl)]
  refine stp_p (a_undoN hE (show ¬ 0 < 0 by omega)) h (fun M16 h => ?_)
  rw [if_pos rfl]
  refine stp_q (a_restN hE (s := 1) (by omega) (show ¬ false = true by decide) (x := 1) rfl) h (fun M18 h => ?_)
  rw [if_pos rfl]
  have hN2 : dN (dLoad D) = dN D := rfl
  refine stp_put hE (c := 45) rfl (by omega) (by rw [hN2]; omega) h (fun M20 hF h => ?_)
  rw [if_neg (by decide)]
  have eo : rdE (dApp (dLoad D) 45).1 = D.1.1 := hT.over 45
  refine stp_p (a_err hF) h (fun M22 h => ?_)
  rw [eo, if_pos rfl]
  refine stp_p (a_loadN hF (by rw [eo]; omega)) h (fun M24 h => ?_)
  rw [if_pos rfl]
  exact Tot.mk ⟨rfl, _, hF, h⟩
theorem told_cell (hl : scl ≤ 260) (ha : a < 500) (hS : 1 ≤ S ∧ S ≤ 4) (hBd : 1 ≤ B ∧ B ≤ 9) {t b : Nat} (ht : t < S) (hb : b < B) {k107 : Int32 → Int32 → Int32 → Int32 → Mem → Option (Int32 × Mem)} {k125 : Int32 → Int32 → Int32 → Int32 → Int32 → Mem → Option (Int32 × Mem)} {size notes rests : Int32} {M : Mem} (h : TI S B t b size notes rests M)
    (hk : ∀ (size notes rests : Int32) (M : Mem), TI S B t (b + 1) size notes rests M → Tot (k125 1 size notes rests (iz ((b + 1 : Nat) : Int)) M) TE) : Tot (f_L_told_b125 scr scl (iz (a : Int)) (iz (S : Int)) (iz (B : Int)) (iz (t : Int)) k107 k125 1 size notes rests (iz (b : Int)) M) TE := by
  obtain ⟨D, k, hD, hT, rfl, rfl, rfl, hn, hN, hk9, h⟩ := h
  have hN' : D.1.1 = dN D := rfl
  have e0 : dT D = D.1.2 := rfl
  have lat := hT.later
  unfold f_L_told_b125
  rw [if_neg (by rw [lez (by omega) (by omega)]; omega), if_neg (by decide)]
  have ea : (iz (a : Int) + 1) + ((iz (t : Int) + (4 * iz (b : Int))) - (iz (t : Int) + (4 * iz (b : Int))) / 24 * 24) = iz ((a + 1 + (t + 4 * b) % 24 : Nat) : Int) := by
    have e1 : iz (t : Int) + 4 * iz (b : Int) = iz ((t + 4 * b : Nat) : Int) := by
      rw [show (4 : Int32) = iz 4 from rfl, iz_mul, iz_add]
      congr 1
    rw [e1, show iz ((t + 4 * b : Nat) : Int) - iz ((t + 4 * b : Nat) : Int) / 24 * 24 = iz (((t + 4 * b) % 24 : Nat) : Int) from izm (k := 24) (by omega) (by omega) (by omega), a1z, iz_add]
    rfl
  obtain ⟨m, hm, em⟩ := number_ok (scr := scr) (a := a + 1 + (t + 4 * b) % 24) hl (by omega) M
  rw [ea, em, ob_some]
  have e3 : (1 : Int32) + (iz (b : Int) - iz (b : Int) / 3 * 3) = iz ((1 + b % 3 : Nat) : Int) := by
    rw [show iz (b : Int) - iz (b : Int) / 3 * 3 = iz ((b % 3 : Nat) : Int) from izm (k := 3) (by omega) (by omega) (by omega), show (1 : Int32) = iz 1 from rfl, iz_add]
    rfl
  rw [e3, if_pos (by rw [show (0 : Int32) = iz 0 from rfl, iz_eq (by omega) (by omega) (by omega) (by omega)]; omega), show iz (m : Int) / iz ((1 + b % 3 : Nat) : Int) = iz ((m / (1 + b % 3) : Nat) : Int) from izd hm (by omega) (by omega)]
  obtain ⟨y, hy, ey⟩ : ∃ y : Nat, y < 2147483648 ∧ m / (1 + b % 3) = y := ⟨_, Nat.lt_of_le_of_lt (Nat.div_le_self _ _) hm, rfl⟩
  rw [ey, show iz (y : Int) - iz (y : Int) / 8 * 8 = iz ((y % 8 : Nat) : Int) from izm (k := 8) hy (by omega) (by omega)]
  have h8 : y % 8 < 8 := Nat.mod_lt _ (by omega)
  refine stp_p (a_err hD) h (fun M2 h => ?_)
  rw [hT.err ht hb, if_pos rfl]
  unfold f_L_told_b185
  -- a note
  have note : Tot (f_L_told_b262 scr scl (iz (a : Int)) (iz (S : Int)) (iz (B : Int)) 1 (iz (dN D : Int)) (iz (k : Int)) (iz (t : Int)) (iz (b : Int)) (iz (y : Int)) k107 k125 M2) TE := by
    have go : ∀ q : Nat, 0 < q → q ≤ 61 → Tot (f_L_told_b284 scr scl (iz (a : Int)) (iz (S : Int)) (iz (B : Int)) 1 (iz (dN D : Int)) (iz (k : Int)) (iz (t : Int)) (iz (b : Int)) k107 k125 (iz (q : Int)) (iz ((y / 16 : Nat) : Int)) M2) TE := fun q q0 q61 => by
      have hv0 : y / 16 % q < q := Nat.mod_lt _ q0
      have ev : iz ((y / 16 : Nat) : Int) - iz ((y / 16 : Nat) : Int) / iz (q : Int) * iz (q : Int) = iz ((y / 16 % q : Nat) : Int) := izm (by omega) q0 (by omega)
      unfold f_L_told_b284
      rw [if_pos (by rw [show (0 : Int32) = iz 0 from rfl, iz_eq (by omega) (by omega) (by omega) (by omega)]; omega), if_neg (by decide), ev]
      generalize y / 16 % q = v at hv0
      have d1 : (48 : Int32) + iz (v : Int) / 10 = iz (48 + ((v / 10 : Nat) : Int)) := by
        rw [show iz (v : Int) / 10 = iz ((v / 10 : Nat) : Int) from izd (k := 10) (by omega) (by omega) (by omega), show (48 : Int32) = iz 48 from rfl, iz_add]
      have d2 : (48 : Int32) + (iz (v : Int) - iz (v : Int) / 10 * 10) = iz (48 + ((v % 10 : Nat) : Int)) := by
        rw [show iz (v : Int) - iz (v : Int) / 10 * 10 = iz ((v % 10 : Nat) : Int) from izm (k := 10) (by omega) (by omega) (by omega), show (48 : Int32) = iz 48 from rfl, iz_add]
      refine stp_put hD d1 (by omega) (by omega) h (fun M4 hD1 h => ?_)
      rw [if_neg (by decide)]
      have eh : rdE (dApp D (48 + ((v / 10 : Nat) : Int))).1 = ((D.1.1 + 1 : Nat) : Int) := hT.half ht hb (by omega)
      refine stp_p (a_err hD1) h (fun M6 h => ?_)
      rw [eh, a1z, if_pos rfl]
      refine stp_put hD1 d2 (by omega) (by show dN D + 1 < 140; omega) h (fun M8 hD2 h => ?_)
      rw [if_neg (by decide)]
      unfold f_L_told_b340
      obtain ⟨g1, g2⟩ := hT.note (d := ((v / 10 : Nat) : Int)) (e := ((v % 10 : Nat) : Int)) (by omega) (by omega) (by omega)
      rw [show iz (dN D : Int) + 2 = iz ((dN D + 2 : Nat) : Int) by rw [show (2 : Int32) = iz 2 from rfl, iz_add]; rfl, a1z, a1z]
      refine hk _ _ _ _ ⟨_, k + 1, hD2, g1, rfl, rfl, ?_, ?_, ?_, by omega, h⟩
      · show (0 : Int32) = if pvs (Rd (app (app D.1 (48 + ((v / 10 : Nat) : Int))) (48 + ((v % 10 : Nat) : Int))) B t (b + 1)).2.2 t (b + 1) = -9 then 1 else 0
        rw [g2, pvs_next, if_neg (by omega)]
      · show nAll (Rd (app (app D.1 (48 + ((v / 10 : Nat) : Int))) (48 + ((v % 10 : Nat) : Int))) B t (b + 1)).2.2 S B = _
        rw [g2, nAll_cset ht hb lat, hn, if_pos (by omega)]
        rfl
      · show dN D + 1 + 1 ≤ _
        omega
    unfold f_L_told_b262
    rw [show iz (y : Int) / 16 = iz ((y / 16 : Nat) : Int) from izd (k := 16) hy (by omega) (by omega)]
    by_cases c : ((iz (y : Int) / 8) - (iz (y : Int) / 8) / 2 * 2) = 0
    · rw [if_pos c]; exact go 61 (by omega) (by omega)
    · rw [if_neg c]; exact go 25 (by omega) (by omega)
  by_cases c0 : y % 8 = 0
  · rw [if_pos (by rw [c0]; rfl), if_neg (by decide)]
    refine stp_put hD (c := 45) rfl (by omega) (by omega) h (fun M4 hD1 h => ?_)
    rw [if_neg (by decide)]
    unfold f_L_told_b212
    obtain ⟨g1, g2⟩ := hT.rest
    rw [a1z, a1z]
    refine hk _ _ _ _ ⟨_, k, hD1, g1, rfl, rfl, ?_, ?_, ?_, by omega, h⟩
    · show (1 : Int32) = if pvs (Rd (app D.1 45) B t (b + 1)).2.2 t (b + 1) = -9 then 1 else 0
      rw [g2, pvs_next, if_pos rfl]
    · show nAll (Rd (app D.1 45) B t (b + 1)).2.2 S B = _
      rw [g2, nAll_cset ht hb lat, hn, if_neg (by omega)]
      omega
    · show dN D + 1 ≤ _
      omega
  · rw [if_neg (by rw [show (0 : Int32) = iz 0 from rfl, iz_eq (by omega) (by omega) (by omega) (by omega)]; omega)]
    by_cases c4 : 4 ≤ y % 8
    · rw [if_pos (by rw [show (4 : Int32) = iz ((4 : Nat) : Int) from rfl, lez (by omega) (by omega)]; exact c4)]
      exact note
    · rw [if_neg (by rw [show (4 : Int32) = iz ((4 : Nat) : Int) from rfl, lez (by omega) (by omega)]; exact c4)]
      by_cases cp : pvs (Rd D.1 B t b).2.2 t b = -9
      · rw [if_neg (by unfold pvF; rw [if_pos cp]; decide)]
        exact note
      · have ep : pvF D.1 B t b = 0 := by unfold pvF; rw [if_neg cp]
        rw [ep, if_pos rfl, if_neg (by decide)]
        refine stp_put hD (c := 61) rfl (by omega) (by omega) h (fun M4 hD1 h => ?_)
        rw [if_neg (by decide)]
        unfold f_L_told_b254
        obtain ⟨g1, g2⟩ := hT.hold cp
        rw [a1z, a1z]
        refine hk _ _ _ _ ⟨_, k, hD1, g1, rfl, rfl, ?_, ?_, ?_, by omega, h⟩
        · show (0 : Int32) = if pvs (Rd (app D.1 61) B t (b + 1)).2.2 t (b + 1) = -9 then 1 else 0
          rw [g2, pvs_next, if_neg (by omega)]
        · show nAll (Rd (app D.1 61) B t (b + 1)).2.2 S B = _
          rw [g2, nAll_cset ht hb lat, hn, if_neg (by omega)]
          omega
        · show dN D + 1 ≤ _
          omega
theorem told_rows (hl : scl ≤ 260) (ha : a < 500) (hS : 1 ≤ S ∧ S ≤ 4) (hBd : 1 ≤ B ∧ B ≤ 9) {D : Ds} (hD : DOk D) (hT : Tg D.1 S B 0 0) (hN : dN D = 4) (hz : nAll (Rd D.1 B 0 0).2.2 S B = 0) {M : Mem} (h : S2 D D M) : Tot (f_L_told_b96 scr scl (iz (a : Int)) (iz (S : Int)) (iz (B : Int)) 1 M) TE := by
  unfold f_L_told_b96
  show Tot (lq4 (f_L_told_b107 scr scl (iz (a : Int)) (iz (S : Int)) (iz (B : Int))) 5 1 4 0 (iz ((0 : Nat) : Int)) M) TE
  refine up4_tot S (fun t g size notes M' => g = 1 ∧ TJ S B t size notes M') ?_ ?_ 5 0 1 4 0 M (by omega) ⟨rfl, D, 0, hD, hT, by rw [hN]; rfl, rfl, hz, by omega, by omega, h⟩ (by omega)
  · intro K t g size notes M1 ht ⟨hg, h⟩ hK
    subst hg
    unfold f_L_told_b107
    rw [if_neg (by rw [lez (by omega) (by omega)]; omega), if_neg (by decide)]
    show Tot (lq5 (f_L_told_b125 scr scl (iz (a : Int)) (iz (S : Int)) (iz (B : Int)) (iz (t : Int)) K) 17 1 size notes 1 (iz ((0 : Nat) : Int)) M1) TE
    have hi : TI S B t 0 size notes 1 M1 := by
      obtain ⟨D', k, q1, q2, q3, q4, q5, q6, q7, q8⟩ := h
      exact ⟨D', k, q1, q2, q3, q4, rfl, q5, by omega, by omega, q8⟩
    refine up5_tot B (fun b g size notes rests M' => g = 1 ∧ TI S B t b size notes rests M') ?_ ?_ 17 0 1 size notes 1 M1 (by omega) ⟨rfl, hi⟩ (by omega)
    · intro K2 b g size notes rests M2 hb ⟨hg, h⟩ hK2
      subst hg
      exact told_cell hl ha hS hBd ht hb h (fun size notes rests M h => hK2 _ _ _ _ _ ⟨rfl, h⟩)
    · intro K2 g size notes rests M2 ⟨hg, h⟩
      subst hg
      unfold f_L_told_b125
      rw [if_pos (Int32.le_refl _), a1z]
      refine hK _ _ _ _ ⟨rfl, ?_⟩
      obtain ⟨D', k, q1, q2, q3, q4, _, q5, q6, q7, q8⟩ := h
      exact ⟨D', k, q1, q2.next, q3, q4, q5, by omega, by omega, q8⟩
  · intro K g size notes M1 ⟨hg, h⟩
    subst hg
    unfold f_L_told_b107
    rw [if_pos (Int32.le_refl _)]
    exact told_end hS hBd h
theorem told_ok (hl : scl ≤ 260) (ha : a < 500) {D : Ds} (hD : DOk D) {M : Mem} (h : S2 D D M) : Tot (f_L_told scr scl (iz (a : Int)) M) TE := by
  obtain ⟨n, hn, en⟩ := number_ok (scr := scr) (a := a) hl (by omega) M
  unfold f_L_told
  rw [en, ob_some]
  have hC := a_clear hD
  refine stp_p hC h (fun M2 h => ?_)
  refine stp_q hC h (fun M4 h => ?_)
  rw [if_pos rfl]
  have h1 := hC.1
  have e4 : (1 : Int32) + (iz (n : Int) - iz (n : Int) / 4 * 4) = iz ((1 + n % 4 : Nat) : Int) := by
    rw [show iz (n : Int) - iz (n : Int) / 4 * 4 = iz ((n % 4 : Nat) : Int) from izm (k := 4) hn (by omega) (by omega), show (1 : Int32) = iz 1 from rfl, iz_add]
    rfl
  have e9 : (1 : Int32) + ((iz (n : Int) / 4) - (iz (n : Int) / 4) / 9 * 9) = iz ((1 + n / 4 % 9 : Nat) : Int) := by
    rw [show iz (n : Int) / 4 = iz ((n / 4 : Nat) : Int) from izd (k := 4) hn (by omega) (by omega), show iz ((n / 4 : Nat) : Int) - iz ((n / 4 : Nat) : Int) / 9 * 9 = iz ((n / 4 % 9 : Nat) : Int) from izm (k := 9) (by omega) (by omega) (by omega), show (1 : Int32) = iz 1 from rfl, iz_add]
    rfl
  rw [e4, e9]
  have hS : 1 ≤ 1 + n % 4 ∧ 1 + n % 4 ≤ 4 := by omega
  have hBd : 1 ≤ 1 + n / 4 % 9 ∧ 1 + n / 4 % 9 ≤ 9 := by omega
  generalize 1 + n % 4 = S at hS
  generalize 1 + n / 4 % 9 = B at hBd
  have pS : (48 : Int32) + iz (S : Int) = iz (48 + (S : Int)) := by rw [show (48 : Int32) = iz 48 from rfl, iz_add]
  have pB : (48 : Int32) + iz (B : Int) = iz (48 + (B : Int)) := by rw [show (48 : Int32) = iz 48 from rfl, iz_add]
  have T0 : dN ((0, dT D), D.2) = 0 := rfl
  refine stp_put h1 (c := 77) rfl (by omega) (by rw [T0]; omega) h (fun M6 h2 h => ?_)
  rw [if_neg (by decide)]
  have er : rdE (dApp ((0, dT D), D.2) 77).1 = 1 := by
    have s0 : sgn (app (0, dT D) 77) 0 = 77 := app_at (0, dT D) 77
    have d1 : dig (app (0, dT D) 77) 1 = -1 := dig_end (by rw [app_1]; omega)
    show rdE (app (0, dT D) 77) = 1
    unfold rdE
    rw [if_neg (fun z => z s0), if_pos (by rw [d1]; omega)]
  refine stp_p (a_err h2) h (fun M8 h => ?_)
  rw [er, if_pos (show (iz 1 : Int32) = 1 from rfl)]
  refine stp_put h2 pS (by omega) (by show (0 + 1 : Nat) < 140; omega) h (fun M10 h3 h => ?_)
  rw [if_neg (by decide)]
  refine stp_put h3 (c := 48) rfl (by omega) (by show (0 + 1 + 1 : Nat) < 140; omega) h (fun M12 h4 h => ?_)
  rw [if_neg (by decide)]
  refine stp_put h4 pB (by omega) (by show (0 + 1 + 1 + 1 : Nat) < 140; omega) h (fun M14 h5 h => ?_)
  rw [if_neg (by decide)]
  have hh : sgn (app (app (app (app (0, dT D) 77) (48 + (S : Int))) 48) (48 + (B : Int))) 0 = 77 ∧ dig (app (app (app (app (0, dT D) 77) (48 + (S : Int))) 48) (48 + (B : Int))) 1 = S ∧ dig (app (app (app (app (0, dT D) 77) (48 + (S : Int))) 48) (48 + (B : Int))) 2 = 0 ∧ dig (app (app (app (app (0, dT D) 77) (48 + (S : Int))) 48) (48 + (B : Int))) 3 = B := by
    refine ⟨?_, ?_, ?_, ?_⟩
    · rw [app_lt (by simp only [app_1]; omega), app_lt (by simp only [app_1]; omega), app_lt (by simp only [app_1]; omega)]
      exact app_at (0, dT D) 77
    · rw [dig_lt2 (by simp only [app_1]; omega), dig_lt2 (by simp only [app_1]; omega)]
      exact dig_at (T := app (0, dT D) 77) (by omega)
    · rw [dig_lt2 (by simp only [app_1]; omega)]
      exact dig_at (T := app (app (0, dT D) 77) (48 + (S : Int))) (d := 0) (by omega)
    · exact dig_at (T := app (app (app (0, dT D) 77) (48 + (S : Int))) 48) (by omega)
  have hz : nAll (fun _ _ => -9) S B = 0 := by
    have inner : ∀ m : Nat, sg (fun _ => if pit (-9) then (1 : Int) else 0) m = 0 := fun m => by
      induction m with
      | zero => rfl
      | succ m ih =>
        show sg (fun _ => if pit (-9) then (1 : Int) else 0) m + (if pit (-9) then (1 : Int) else 0) = 0
        rw [ih, if_neg (by omega)]
        rfl
    unfold nAll
    rw [sg_cong (g := fun _ => if pit (-9) then (1 : Int) else 0) (fun i _ => by rw [inner B, if_neg (by omega)])]
    exact inner S
  exact told_rows hl ha hS hBd h5 ⟨hh, hS, hBd, rfl, rfl⟩ rfl hz h
end TOLD
