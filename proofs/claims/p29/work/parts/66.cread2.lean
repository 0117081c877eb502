theorem fin_bad {T : Tx} {S B s b : Nat} (hfin : fin T = rall T B S) (hs : s < S) (hb : b < B) (h : (rrow T s (b + 1) (rall T B s)).1 = false) : fin T = rrow T s (b + 1) (rall T B s) := by
  have e1 : rall T B (s + 1) = rrow T s (b + 1) (rall T B s) := by
    show rrow T s B (rall T B s) = _
    rw [show B = (b + 1) + (B - (b + 1)) by omega]
    exact rrow_stick (b := b + 1) (by rw [show (b + 1) + (B - (b + 1)) = B by omega]; exact h) _
  rw [hfin, show S = (s + 1) + (S - (s + 1)) by omega, rall_stick (by rw [e1]; exact h), e1]
def fSE (M : Mem) : Nat → Int := fun j => (M (iSt 1 + 1) j).toInt
abbrev RIq (M : Mem) (T : Tx) (x : Int32 × Mem) : Prop := x.1 = iz (rdE T) ∧ x.2 1 1 = M 1 1 ∧ Off RT M x.2 ∧ (rdE T = -9 → StRep x.2 1 (fSE M, (dig T 1).toNat, (hB T).toNat, (fin T).2.2))
abbrev RIJ (M : Mem) (T : Tx) (S B : Nat) (σ : Rs) (M' : Mem) : Prop := σ.1 = true ∧ M' 1 2 = iz (σ.2.1 : Nat) ∧ M' 1 1 = M 1 1 ∧ StRep M' 1 (fSE M, S, B, σ.2.2) ∧ Off RT M M'
theorem readInto_loop {M M0 : Mem} {T : Tx} (hT : TOk T) (h1 : M 1 1 = iz T.1) (h2 : ∀ i, i < T.1 → M 2 i = iz (T.2 i)) (hh : hOk T) {S B : Nat} (eS : dig T 1 = S) (eB : hB T = B) (hJ : RIJ M T S B (rall T B 0) M0) : Tot (lq1 (f_X4_readInto_b99 1 (iz S) (iz B)) 9999 0 M0) (RIq M T) := by
  have hN := hT.1
  have hS := hh.2.1
  have hBB := hh.2.2.2
  have h4 := hOk4 hh
  have hfin : fin T = rall T B S := by
    unfold fin
    rw [eS, eB, Int.toNat_natCast, Int.toNat_natCast]
  rw [show (0 : Int32) = iz ((0 : Nat) : Int) from rfl]
  refine up_tot S (fun s M' => RIJ M T S B (rall T B s) M') ?_ ?_ 9999 0 M0 (by omega) hJ (by omega)
  · intro K s M' hs hJ1 hK
    unfold f_X4_readInto_b99
    rw [if_neg (by rw [lez (by omega) (by omega)]; omega), show (0 : Int32) = iz ((0 : Nat) : Int) from rfl]
    refine up_tot B (fun b M' => RIJ M T S B (rrow T s b (rall T B s)) M') ?_ ?_ 9999 0 M' (by omega) hJ1 (by omega)
    · intro K2 b M2 hb ⟨j1, j2, j3, j4, j5⟩ hK2
      unfold f_X4_readInto_b108
      have hri : RI T s b (rrow T s b (rall T B s)) := (RI.all h4 B s).row b
      have enx : rrow T s (b + 1) (rall T B s) = rst T s b (rrow T s b (rall T B s)) := rfl
      rw [rst_good j1] at enx
      have fb := fin_bad (T := T) (S := S) (B := B) (s := s) (b := b) hfin hs hb
      rw [enx] at fb
      have K2' : ∀ M', RIJ M T S B (rrow T s (b + 1) (rall T B s)) M' → Tot (K2 (iz ((b + 1 : Nat) : Int)) M') (RIq M T) := fun M' q => hK2 M' q
      rw [enx] at K2'
      generalize rrow T s b (rall T B s) = σ at j1 j2 j4 hri fb K2'
      have q1 : M2 1 1 = iz T.1 := j3.trans h1
      have q2 : ∀ i, i < T.1 → M2 2 i = iz (T.2 i) := fun i hi => by rw [j5 2 (by unfold RT RSt; have := iSt_eq 1; omega)]; exact h2 i hi
      have hPD : PgD (fSE M, S, B, σ.2.2) := ⟨by show 1 ≤ S ∧ S ≤ 4; omega, by show 1 ≤ B ∧ B ≤ 16; omega⟩
      rw [if_neg (by rw [lez (by omega) (by omega)]; omega)]
      refine Tot.ob ((readCell_tot (P := (fSE M, S, B, σ.2.2)) hT q1 q2 j2 (by have := hri.1; omega) j4 hPD hri.2.1 hs hb).mono ?_)
      intro ⟨x, M3⟩ ⟨r1, r2, r3, r4, r5⟩
      have r1 : x = iz (b01 (rc T (pvs σ.2.2 s b) σ.2.1).1) := r1
      have r2 : M3 1 2 = iz ((rc T (pvs σ.2.2 s b) σ.2.1).2.1 : Nat) := r2
      have r3 : M3 1 1 = M2 1 1 := r3
      have r4 : (rc T (pvs σ.2.2 s b) σ.2.1).1 = true → StRep M3 1 (pcel (fSE M, S, B, σ.2.2) (cset σ.2.2 s b (rc T (pvs σ.2.2 s b) σ.2.1).2.2)) := r4
      have r5 : Off RT M2 M3 := r5
      have hrc := rc_rng (T := T) (pv := pvs σ.2.2 s b) hri.1
      show Tot (if x = 0 then some (M3 1 2, M3) else K2 (iz (b : Int) + 1) M3) _
      generalize rc T (pvs σ.2.2 s b) σ.2.1 = r at r1 r2 r4 hrc fb K2'
      by_cases c : r.1 = true
      · rw [r1, c, if_neg (by decide), a1z]
        refine K2' M3 ⟨c, r2, r3.trans j3, ?_, j5.tr r5⟩
        show StRep M3 1 (fSE M, S, B, if r.1 = true then cset σ.2.2 s b r.2.2 else σ.2.2)
        rw [if_pos c]
        exact r4 c
      · have c' : r.1 = false := by simpa using c
        have fb := fb c'
        have e : rdE T = (r.2.1 : Nat) := by
          rw [rdE_ok hh, fb, if_neg (fun z => c z.1)]
        rw [r1, c', if_pos (by decide)]
        refine Tot.mk ⟨?_, r3.trans j3, j5.tr r5, fun z => absurd z (by rw [e]; omega)⟩
        rw [e]
        exact r2
    · intro K2 M2 hJ2
      unfold f_X4_readInto_b108
      rw [if_pos (Int32.le_refl _), a1z]
      exact hK M2 hJ2
  · intro K M' ⟨j1, j2, j3, j4, j5⟩
    unfold f_X4_readInto_b99 f_X4_readInto_b144
    have fl := fin_le hh
    have ed := rdE_ok hh
    rw [hfin] at fl ed
    have hfin2 : (fin T).2.2 = (rall T B S).2.2 := by rw [hfin]
    generalize rall T B S = σ at j1 j2 j4 fl ed hfin2
    have ee : (M' 1 2 = M' 1 1) = (σ.2.1 = T.1) := by
      rw [j2, j3, h1, iz_eq (by omega) (by omega) (by omega) (by omega)]
      exact propext ⟨fun h => by omega, fun h => by omega⟩
    rw [if_pos (Int32.le_refl _)]
    have fin' : StRep M' 1 (fSE M, (dig T 1).toNat, (hB T).toNat, (fin T).2.2) := by
      rw [hfin2, eS, eB, Int.toNat_natCast, Int.toNat_natCast]
      exact j4
    by_cases c : σ.2.1 = T.1
    · rw [if_pos ⟨j1, c⟩] at ed
      rw [if_pos (by rw [ee]; exact c)]
      exact Tot.mk ⟨by rw [ed]; rfl, j3, j5, fun _ => fin'⟩
    · rw [if_neg (fun z => c z.2)] at ed
      rw [if_neg (by rw [ee]; exact c)]
      exact Tot.mk ⟨by rw [ed]; exact j2, j3, j5, fun _ => fin'⟩
theorem readInto_tot {M : Mem} {T : Tx} (hT : TOk T) (h1 : M 1 1 = iz T.1) (h2 : ∀ i, i < T.1 → M 2 i = iz (T.2 i)) : Tot (f_X4_readInto 1 M) (RIq M T) := by
  unfold f_X4_readInto
  have hN := hT.1
  have hr := sgn_rng hT 0
  have d1 := dig_rng T 1
  have d2 := dig_rng T 2
  have d3 := dig_rng T 3
  have i1 := iSt_eq 1
  have s0 : f_X4_signAt 0 M = some (iz (sgn T 0), M) := signAt_eq hT h1 h2 0 (by omega)
  have s1 : f_X4_digitAt 1 M = some (iz (dig T 1), M) := digitAt_eq hT h1 h2 1 (by omega)
  have s2 : f_X4_digitAt 2 M = some (iz (dig T 2), M) := digitAt_eq hT h1 h2 2 (by omega)
  have s3 : f_X4_digitAt 3 M = some (iz (dig T 3), M) := digitAt_eq hT h1 h2 3 (by omega)
  have bad : ∀ (v : Int32) (n : Nat), v = iz (n : Int) → rdE T = n → Tot (some (v, M)) (RIq M T) := fun v n hv hn => Tot.mk ⟨by rw [hn]; exact hv, rfl, Off.rf, fun z => absurd z (by rw [hn]; omega)⟩
  have e77 : (iz (sgn T 0) = 77) = (sgn T 0 = 77) := by rw [show (77 : Int32) = iz 77 from rfl, iz_eq (by omega) (by omega) (by omega) (by omega)]
  have l1 : (iz (dig T 1) < 1) = (dig T 1 < 1) := by rw [show (1 : Int32) = iz 1 from rfl, iz_lt (by omega) (by omega) (by omega) (by omega)]
  have l4 : (iz (dig T 1) ≤ 4) = (dig T 1 ≤ 4) := by rw [show (4 : Int32) = iz 4 from rfl, iz_le (by omega) (by omega) (by omega) (by omega)]
  have l0 : (iz (dig T 2) < 0) = (dig T 2 < 0) := by rw [show (0 : Int32) = iz 0 from rfl, iz_lt (by omega) (by omega) (by omega) (by omega)]
  have l11 : (iz (dig T 2) ≤ 1) = (dig T 2 ≤ 1) := by rw [show (1 : Int32) = iz 1 from rfl, iz_le (by omega) (by omega) (by omega) (by omega)]
  have em1 : (iz (dig T 3) = -1) = (dig T 3 = -1) := by rw [show (-1 : Int32) = iz (-1) from rfl, iz_eq (by omega) (by omega) (by omega) (by omega)]
  have em : (10 : Int32) * iz (dig T 2) + iz (dig T 3) = iz (hB T) := by rw [show (10 : Int32) = iz 10 from rfl, iz_mul, iz_add]; rfl
  have hBd : hB T = 10 * dig T 2 + dig T 3 := rfl
  have lb1 : (iz (hB T) < 1) = (hB T < 1) := by rw [show (1 : Int32) = iz 1 from rfl, iz_lt (by omega) (by omega) (by omega) (by omega)]
  have lb16 : (iz (hB T) ≤ 16) = (hB T ≤ 16) := by rw [show (16 : Int32) = iz 16 from rfl, iz_le (by omega) (by omega) (by omega) (by omega)]
  rw [s0, ob_some]
  by_cases c1 : sgn T 0 = 77
  · rw [if_pos (by rw [e77]; exact c1), s1, ob_some]
    by_cases c2 : 1 ≤ dig T 1 ∧ dig T 1 ≤ 4
    · rw [if_neg (by rw [l1]; omega), if_pos (by rw [l4]; omega), s2, ob_some]
      by_cases c3 : 0 ≤ dig T 2 ∧ dig T 2 ≤ 1
      · rw [if_neg (by rw [l0]; omega), if_pos (by rw [l11]; omega), s3, ob_some, em]
        by_cases c4 : 0 ≤ dig T 3 ∧ 1 ≤ hB T ∧ hB T ≤ 16
        · rw [if_neg (by rw [em1]; omega), if_neg (by rw [lb1]; omega), if_pos (by rw [lb16]; omega)]
          have hh : hOk T := ⟨c1, c2, c3, c4⟩
          refine Tot.ob ((becomeRests_tot 1 (iz (dig T 1)) (iz (hB T)) M).mono ?_)
          intro ⟨_, M2⟩ ⟨a1, a2, a3, a4⟩
          have a1 : M2 (iSt 1) 2 = iz (dig T 1) := a1
          have a2 : M2 (iSt 1) 3 = iz (hB T) := a2
          have a3 : ∀ j, j < 64 → M2 (iSt 1 + 2) j = iz (-9) := a3
          have a4 : Off (fun d => d = iSt 1 ∨ d = iSt 1 + 2) M M2 := a4
          obtain ⟨S, eS⟩ : ∃ S : Nat, dig T 1 = S := ⟨(dig T 1).toNat, by omega⟩
          obtain ⟨B, eB⟩ : ∃ B : Nat, hB T = B := ⟨(hB T).toNat, by omega⟩
          show Tot (lq1 (f_X4_readInto_b99 1 (iz (dig T 1)) (iz (hB T))) 9999 0 (mw M2 1 2 4)) _
          have oo : Off RT M M2 := a4.wk (fun d hd => Or.inr (by unfold RSt; omega))
          have o : Off RT M (mw M2 1 2 4) := oo.put (Or.inl rfl)
          have st : StRep (mw M2 1 2 4) 1 (fSE M, S, B, (rall T B 0).2.2) := by
            refine ⟨?_, ?_, fun j hj => ?_, fun s b hs hb => ?_⟩
            · rw [mw_ne (by omega), a1, eS]
            · rw [mw_ne (by omega), a2, eB]
            · rw [mw_ne (by omega), a4 (iSt 1 + 1) (by omega)]
              exact (iz_self _).symm
            · have hs : s < S := hs
              have hb : b < B := hb
              rw [mw_ne (by omega), a3 _ (by omega)]; rfl
          rw [eS, eB]
          refine readInto_loop hT h1 h2 hh eS eB ⟨rfl, ?_, ?_, st, o⟩
          · rw [mw_at, if_pos rfl]; rfl
          · rw [mw_at, if_neg (by omega), a4 1 (by omega)]
        · have e3 : rdE T = (3 : Nat) := by unfold rdE; rw [if_neg (fun z => z c1), if_neg (fun z => z c2), if_neg (fun z => z c3), if_pos c4]; rfl
          have w := bad 3 3 rfl e3
          by_cases f1 : dig T 3 = -1
          · rw [if_pos (by rw [em1]; exact f1)]; exact w
          · rw [if_neg (by rw [em1]; exact f1)]
            by_cases f2 : hB T < 1
            · rw [if_pos (by rw [lb1]; exact f2)]; exact w
            · rw [if_neg (by rw [lb1]; exact f2), if_neg (by rw [lb16]; omega)]; exact w
      · have e2 : rdE T = (2 : Nat) := by unfold rdE; rw [if_neg (fun z => z c1), if_neg (fun z => z c2), if_pos c3]; rfl
        have w := bad 2 2 rfl e2
        by_cases f1 : dig T 2 < 0
        · rw [if_pos (by rw [l0]; exact f1)]; exact w
        · rw [if_neg (by rw [l0]; exact f1), if_neg (by rw [l11]; omega)]; exact w
    · have e1 : rdE T = (1 : Nat) := by unfold rdE; rw [if_neg (fun z => z c1), if_pos c2]; rfl
      have w := bad 1 1 rfl e1
      by_cases f1 : dig T 1 < 1
      · rw [if_pos (by rw [l1]; exact f1)]; exact w
      · rw [if_neg (by rw [l1]; exact f1), if_neg (by rw [l4]; omega)]; exact w
  · have e0 : rdE T = (0 : Nat) := by unfold rdE; rw [if_pos c1]; rfl
    rw [if_neg (by rw [e77]; exact c1)]
    exact bad 0 0 rfl e0
