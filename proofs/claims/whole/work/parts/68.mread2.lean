theorem begin_tot (M : Mem) : Tot (f_X6_begin 29 M) (fun x => (∀ j, j < 6 → x.2 29 j = iz (fE j)) ∧ (∀ j, 8 ≤ j → j < 72 → x.2 29 j = iz (-9)) ∧ Off (fun d => d = 29) M x.2) := by
  unfold f_X6_begin
  rw [show lnA 29 = 72 from rfl, if_pos (by decide), if_pos (by decide), if_pos (by decide), if_pos (by decide), if_pos (by decide), if_pos (by decide), c0, c1, c2, c3, c4, c5, show (8 : Int32) = iz ((8 : Nat) : Int) from rfl]
  refine up_tot 72 (fun i M' => 8 ≤ i ∧ (∀ j, j < 6 → M' 29 j = iz (fE j)) ∧ (∀ j, 8 ≤ j → j < i → M' 29 j = iz (-9)) ∧ Off (fun d => d = 29) M M') ?_ ?_ 9999 8 _ (by omega) ⟨by omega, fun j hj => ?_, fun j h1 h2 => absurd h2 (by omega), fun d hd => (mw_ne hd).trans ((mw_ne hd).trans ((mw_ne hd).trans ((mw_ne hd).trans ((mw_ne hd).trans (mw_ne hd)))))⟩ (by omega)
  · intro K i M' hi ⟨h8, h1, h2, h3⟩ hK
    unfold f_X6_begin_b29
    rw [if_neg (by rw [show (72 : Int32) = iz ((72 : Nat) : Int) from rfl, lez (by omega) (by omega)]; omega), show lnA 29 = 72 from rfl, if_pos (inb_n hi (by omega)), cl_n (by omega), a1z]
    refine hK _ ⟨by omega, fun j hj => ?_, fun j j1 j2 => ?_, h3.put rfl⟩
    · rw [mw_at, if_neg (by omega)]; exact h1 j hj
    · rw [mw_at]
      by_cases e : j = i
      · rw [if_pos e]; rfl
      · rw [if_neg e]; exact h2 j j1 (by omega)
  · intro K M' ⟨_, h1, h2, h3⟩
    unfold f_X6_begin_b29
    rw [if_pos (by decide)]
    exact Tot.mk ⟨h1, h2, h3⟩
  · have : j = 0 ∨ j = 1 ∨ j = 2 ∨ j = 3 ∨ j = 4 ∨ j = 5 := by omega
    rcases this with e | e | e | e | e | e <;> (subst e; simp only [mw_at]; rfl)
abbrev RAq (M : Mem) (T : Tx) (x : Int32 × Mem) : Prop := x.1 = bz (rdE T = -9) ∧ (¬ rdE T = -9 → x.2 27 3 = iz (rdE T)) ∧ (rdE T = -9 → PR x.2 29 0 (rdP T)) ∧ (∀ j, j ≠ 3 → x.2 27 j = M 27 j) ∧ Off RMd M x.2
abbrev RMJ (M : Mem) (S B : Nat) (σ : Rs) (M' : Mem) : Prop := σ.1 = true ∧ M' 27 3 = iz (σ.2.1 : Nat) ∧ (∀ j, j ≠ 3 → M' 27 j = M 27 j) ∧ PR M' 29 0 (fE, S, B, σ.2.2) ∧ Off RMd M M'
theorem readAll_loop {M M0 : Mem} {T : Tx} (hT : TOk T) (h1 : M 27 2 = iz T.1) (h2 : ∀ i, i < T.1 → M 28 i = iz (T.2 i)) (hh : hOk T) {S B : Nat} (eS : dig T 1 = S) (eB : hB T = B) (hJ : RMJ M S B (rall T B 0) M0) : Tot (lq1 f_X6_readAll_b83 9999 0 M0) (RAq M T) := by
  have hN := hT.1
  have hS := hh.2.1
  have hBB := hh.2.2.2
  have h4 := hOk4 hh
  have i6 : inb 6 72 := by decide
  have i7 : inb 7 72 := by decide
  have hPD : ∀ c : Nat → Nat → Int, PgD (fE, S, B, c) := fun c => ⟨by show 1 ≤ S ∧ S ≤ 4; omega, by show 1 ≤ B ∧ B ≤ 16; omega⟩
  have hfin : fin T = rall T B S := by
    unfold fin
    rw [eS, eB, Int.toNat_natCast, Int.toNat_natCast]
  rw [show (0 : Int32) = iz ((0 : Nat) : Int) from rfl]
  refine up_tot S (fun s M' => RMJ M S B (rall T B s) M') ?_ ?_ 9999 0 M0 (by omega) hJ (by omega)
  · intro K s M' hs hJ1 hK
    have eSS : M' 29 6 = iz (S : Int) := hJ1.2.2.2.1.S
    unfold f_X6_readAll_b83
    rw [if_pos i6, c6, eSS, if_neg (by rw [lez (by omega) (by omega)]; omega), show (0 : Int32) = iz ((0 : Nat) : Int) from rfl]
    refine up_tot B (fun b M' => RMJ M S B (rrow T s b (rall T B s)) M') ?_ ?_ 9999 0 M' (by omega) hJ1 (by omega)
    · intro K2 b M2 hb ⟨j1, j2, j3, j4, j5⟩ hK2
      unfold f_X6_readAll_b96
      have hri : RI T s b (rrow T s b (rall T B s)) := (RI.all h4 B s).row b
      have enx : rrow T s (b + 1) (rall T B s) = rst T s b (rrow T s b (rall T B s)) := rfl
      rw [rst_good j1] at enx
      have fb := fin_bad (T := T) (S := S) (B := B) (s := s) (b := b) hfin hs hb
      rw [enx] at fb
      have K2' : ∀ M', RMJ M S B (rrow T s (b + 1) (rall T B s)) M' → Tot (K2 (iz ((b + 1 : Nat) : Int)) M') (RAq M T) := fun M' q => hK2 M' q
      rw [enx] at K2'
      generalize rrow T s b (rall T B s) = σ at j1 j2 j4 hri fb K2'
      have q1 : M2 27 2 = iz T.1 := (j3 2 (by omega)).trans h1
      have q2 : ∀ i, i < T.1 → M2 28 i = iz (T.2 i) := fun i hi => by rw [j5 28 (by unfold RMd; omega)]; exact h2 i hi
      have eBB : M2 29 7 = iz (B : Int) := j4.B
      rw [if_pos i7, c7, eBB, if_neg (by rw [lez (by omega) (by omega)]; omega)]
      refine Tot.ob ((mreadCell_tot (P := (fE, S, B, σ.2.2)) hT ⟨q1, q2, j2⟩ hri.1 j4 (hPD _) hri.2.1 hs hb (hri.2.2.2 s b (Or.inr ⟨rfl, Nat.le_refl _⟩))).mono ?_)
      intro ⟨x, M3⟩ ⟨r1, r2, r3, r4, r5⟩
      have r1 : x = iz (b01 (rc T (pvs σ.2.2 s b) σ.2.1).1) := r1
      have r2 : M3 27 3 = iz ((rc T (pvs σ.2.2 s b) σ.2.1).2.1 : Nat) := r2
      have r3 : ∀ j, j ≠ 3 → M3 27 j = M2 27 j := r3
      have r4 : (rc T (pvs σ.2.2 s b) σ.2.1).1 = true → PR M3 29 0 (pcel (fE, S, B, σ.2.2) (cset σ.2.2 s b (rc T (pvs σ.2.2 s b) σ.2.1).2.2)) := r4
      have r5 : Off RMd M2 M3 := r5
      have hrc := rc_rng (T := T) (pv := pvs σ.2.2 s b) hri.1
      show Tot (if x = 0 then some ((0 : Int32), M3) else K2 (iz (b : Int) + 1) M3) _
      generalize rc T (pvs σ.2.2 s b) σ.2.1 = r at r1 r2 r4 hrc fb K2'
      by_cases c : r.1 = true
      · rw [r1, c, if_neg (by decide), a1z]
        refine K2' M3 ⟨c, r2, fun j hj => (r3 j hj).trans (j3 j hj), ?_, j5.tr r5⟩
        show PR M3 29 0 (fE, S, B, if r.1 = true then cset σ.2.2 s b r.2.2 else σ.2.2)
        rw [if_pos c]
        exact r4 c
      · have c' : r.1 = false := by simpa using c
        have fb := fb c'
        have e : rdE T = (r.2.1 : Nat) := by
          rw [rdE_ok hh, fb, if_neg (fun z => c z.1)]
        have ne : ¬ rdE T = -9 := by rw [e]; omega
        rw [r1, c', if_pos (by decide)]
        refine Tot.mk ⟨(bz_f ne).symm, fun _ => ?_, fun z => absurd z ne, fun j hj => (r3 j hj).trans (j3 j hj), j5.tr r5⟩
        rw [e]
        exact r2
    · intro K2 M2 hJ2
      have eBB : M2 29 7 = iz (B : Int) := hJ2.2.2.2.1.B
      unfold f_X6_readAll_b96
      rw [if_pos i7, c7, eBB, if_pos (Int32.le_refl _), a1z]
      exact hK M2 hJ2
  · intro K M' ⟨j1, j2, j3, j4, j5⟩
    have eSS : M' 29 6 = iz (S : Int) := j4.S
    unfold f_X6_readAll_b83 f_X6_readAll_b130
    have fl := fin_le hh
    have ed := rdE_ok hh
    rw [hfin] at fl ed
    have hfin2 : (fin T).2.2 = (rall T B S).2.2 := by rw [hfin]
    generalize rall T B S = σ at j1 j2 j4 fl ed hfin2
    have ee : (M' 27 3 = M' 27 2) = (σ.2.1 = T.1) := by
      rw [j2, j3 2 (by omega), h1, iz_eq (by omega) (by omega) (by omega) (by omega)]
      exact propext ⟨fun h => by omega, fun h => by omega⟩
    rw [if_pos i6, c6, eSS, if_pos (Int32.le_refl _)]
    have fin' : PR M' 29 0 (rdP T) := by
      unfold rdP
      rw [hfin2, eS, eB, Int.toNat_natCast, Int.toNat_natCast]
      exact j4
    by_cases c : σ.2.1 = T.1
    · rw [if_pos ⟨j1, c⟩] at ed
      rw [if_pos (by rw [ee]; exact c)]
      exact Tot.mk ⟨(bz_t ed).symm, fun z => absurd ed z, fun _ => fin', j3, j5⟩
    · rw [if_neg (fun z => c z.2)] at ed
      have ne : ¬ rdE T = -9 := by rw [ed]; omega
      rw [if_neg (by rw [ee]; exact c)]
      exact Tot.mk ⟨(bz_f ne).symm, fun _ => by rw [ed]; exact j2, fun z => absurd z ne, j3, j5⟩
theorem readAll_tot {M : Mem} {T : Tx} (hT : TOk T) (h1 : M 27 2 = iz T.1) (h2 : ∀ i, i < T.1 → M 28 i = iz (T.2 i)) : Tot (f_X6_readAll M) (RAq M T) := by
  unfold f_X6_readAll
  have hN := hT.1
  have i6 : inb 6 72 := by decide
  have i7 : inb 7 72 := by decide
  have d1 := dig_rng T 1
  have d2 := dig_rng T 2
  have d3 := dig_rng T 3
  refine Tot.ob ((begin_tot (mw M 27 3 0)).mono ?_)
  intro ⟨_, M2⟩ ⟨a1, a2, a3⟩
  have a1 : ∀ j, j < 6 → M2 29 j = iz (fE j) := a1
  have a2 : ∀ j, 8 ≤ j → j < 72 → M2 29 j = iz (-9) := a2
  have a3 : Off (fun d => d = 29) (mw M 27 3 0) M2 := a3
  dsimp only
  have t0 : MT3 T 0 M2 := ⟨by rw [a3 27 (by omega), mw_at, if_neg (by omega)]; exact h1, fun i hi => by rw [a3 28 (by omega), mw_ne (by omega)]; exact h2 i hi, by rw [a3 27 (by omega), mw_at, if_pos rfl]; rfl⟩
  have j27 : ∀ j, j ≠ 3 → M2 27 j = M 27 j := fun j hj => by rw [a3 27 (by omega), mw_at, if_neg hj]
  have o2 : Off RMd M M2 := fun d hd => (a3 d (fun z => hd (Or.inr z))).trans (mw_ne (fun z => hd (Or.inl z)))
  rw [show (77 : Int32) = iz 77 from rfl, eat_eq hT t0 (by omega) (c := 77) (by omega) (by omega), ob_some]
  by_cases k1 : sgn T 0 = 77
  · rw [if_neg (by rw [bz_t k1]; decide), if_pos k1]
    have t1 := t0.to 1
    have q1 := digit_eq hT t1 (by omega) (lo := 1) (hi := 4) (by omega) (by omega) (by omega) (by omega)
    have q1 : f_X6_digit 1 4 (mw M2 27 3 (iz ((0 + 1 : Nat) : Int))) = some (iz (if 1 ≤ dig T 1 ∧ dig T 1 ≤ 4 then dig T 1 else -9), mw (mw M2 27 3 (iz ((1 : Nat) : Int))) 27 3 (iz ((if 1 ≤ dig T 1 ∧ dig T 1 ≤ 4 then 1 + 1 else 1 : Nat) : Int))) := q1
    rw [q1, ob_some, if_pos i6, if_pos i6, mw_mw, c6, mw_at, if_pos rfl]
    by_cases k2 : 1 ≤ dig T 1 ∧ dig T 1 ≤ 4
    · simp only [if_pos k2]
      have e9 : ¬ (iz (dig T 1) = -9) := by rw [show (-9 : Int32) = iz (-9) from rfl, iz_eq (by omega) (by omega) (by omega) (by omega)]; omega
      rw [if_neg e9]
      have t2' := t0.to 2
      have t2 : MT3 T 2 (mw (mw M2 27 3 (iz ((1 + 1 : Nat) : Int))) 29 6 (iz (dig T 1))) := ⟨by rw [mw_ne (by omega)]; exact t2'.1, fun i hi => by rw [mw_ne (by omega)]; exact t2'.2.1 i hi, by rw [mw_ne (by omega)]; exact t2'.2.2⟩
      have q2 : f_X6_two 1 16 (mw (mw M2 27 3 (iz ((1 + 1 : Nat) : Int))) 29 6 (iz (dig T 1))) = _ := two_eq (a := 0) (l := 1) (c := 1) (u := 6) hT t2 (by omega) (by omega) (by omega) (by omega) (by omega) (by omega) (by omega) (by omega) (by omega)
      rw [q2, ob_some]
      -- where the music's two digits stand
      have htw : (hOk T ∧ tw T 2 0 1 1 6 = (hB T, 4)) ∨ (¬ rdE T = -9 ∧ (tw T 2 0 1 1 6).1 = -9 ∧ ((tw T 2 0 1 1 6).2 : Int) = rdE T) := by
        have hBd : hB T = 10 * dig T 2 + dig T 3 := rfl
        unfold tw
        by_cases k3 : 0 ≤ dig T 2 ∧ dig T 2 ≤ 1
        · have iff : ((if dig T 2 = 0 then (1 : Int) else 0) ≤ dig T (2 + 1) ∧ dig T (2 + 1) ≤ (if dig T 2 = 1 then 6 else 9)) ↔ (0 ≤ dig T 3 ∧ 1 ≤ hB T ∧ hB T ≤ 16) := by
            show ((if dig T 2 = 0 then (1 : Int) else 0) ≤ dig T 3 ∧ dig T 3 ≤ (if dig T 2 = 1 then 6 else 9)) ↔ (0 ≤ dig T 3 ∧ 1 ≤ hB T ∧ hB T ≤ 16)
            by_cases z : dig T 2 = 0
            · rw [if_pos z, if_neg (by omega)]; omega
            · rw [if_neg z, if_pos (by omega)]; omega
          rw [if_pos k3]
          by_cases k4 : 0 ≤ dig T 3 ∧ 1 ≤ hB T ∧ hB T ≤ 16
          · rw [if_pos (iff.mpr k4)]
            exact Or.inl ⟨⟨k1, k2, k3, k4⟩, rfl⟩
          · have e3 : rdE T = 3 := by unfold rdE; rw [if_neg (fun z => z k1), if_neg (fun z => z k2), if_neg (fun z => z k3), if_pos k4]
            rw [if_neg (fun z => k4 (iff.mp z)), e3]
            exact Or.inr ⟨by omega, rfl, rfl⟩
        · have e2 : rdE T = 2 := by unfold rdE; rw [if_neg (fun z => z k1), if_neg (fun z => z k2), if_pos k3]
          rw [if_neg k3, e2]
          exact Or.inr ⟨by omega, rfl, rfl⟩
      have hcom : mw (mw (mw M2 27 3 (iz ((1 + 1 : Nat) : Int))) 29 6 (iz (dig T 1))) 27 3 (iz ((tw T 2 0 1 1 6).2 : Nat)) 29 = mw M2 29 6 (iz (dig T 1)) 29 := by
        rw [mw_ne (by omega)]
        show mw (mw M2 27 3 (iz ((1 + 1 : Nat) : Int))) 29 6 (iz (dig T 1)) 29 = _
        rw [mw_same, mw_same, mw_ne (by omega)]
      unfold f_X6_readAll_b66
      rw [show lnA 29 = 72 from rfl, if_pos i7, if_pos i7, c7, mw_at, if_pos rfl]
      have o4 : ∀ v w, Off RMd M (mw (mw (mw (mw M2 27 3 (iz ((1 + 1 : Nat) : Int))) 29 6 (iz (dig T 1))) 27 3 v) 29 7 w) := fun v w => (((o2.put (Or.inl rfl)).put (Or.inr rfl)).put (Or.inl rfl)).put (Or.inr rfl)
      have w3 : ∀ v w, mw (mw (mw (mw M2 27 3 (iz ((1 + 1 : Nat) : Int))) 29 6 (iz (dig T 1))) 27 3 v) 29 7 w 27 3 = v := fun v w => by rw [mw_ne (by omega), mw_at, if_pos rfl]
      have wj : ∀ v w j, j ≠ 3 → mw (mw (mw (mw M2 27 3 (iz ((1 + 1 : Nat) : Int))) 29 6 (iz (dig T 1))) 27 3 v) 29 7 w 27 j = M 27 j := fun v w j hj => by rw [mw_ne (by omega), mw_at, if_neg hj, mw_ne (by omega), mw_at, if_neg hj]; exact j27 j hj
      rcases htw with ⟨hh, ht⟩ | ⟨hn, ht, hr⟩
      · have hb := hh.2.2.2
        have e9b : ¬ (iz (hB T) = -9) := by rw [show (-9 : Int32) = iz (-9) from rfl, iz_eq (by omega) (by omega) (by omega) (by omega)]; omega
        obtain ⟨S, eS⟩ : ∃ S : Nat, dig T 1 = S := ⟨(dig T 1).toNat, by omega⟩
        obtain ⟨B, eB⟩ : ∃ B : Nat, hB T = B := ⟨(hB T).toNat, by omega⟩
        rw [ht] at hcom ⊢
        rw [if_neg e9b]
        refine readAll_loop hT h1 h2 hh eS eB ⟨rfl, w3 _ _, wj _ _, ?_, o4 _ _⟩
        have cell : ∀ j, mw (mw (mw (mw M2 27 3 (iz ((1 + 1 : Nat) : Int))) 29 6 (iz (dig T 1))) 27 3 (iz ((4 : Nat) : Int))) 29 7 (iz (hB T)) 29 j = if j = 7 then iz (hB T) else if j = 6 then iz (dig T 1) else M2 29 j := fun j => by
          rw [mw_at]
          by_cases e : j = 7
          · rw [if_pos e, if_pos e]
          · rw [if_neg e, if_neg e]
            have := congrFun hcom j
            rw [mw_at] at this
            exact this
        refine ⟨fun j hj => ?_, ?_, ?_, fun s b hs hb => ?_⟩
        · refine (cell (0 + j)).trans ?_
          rw [if_neg (by omega), if_neg (by omega), Nat.zero_add]; exact a1 j hj
        · refine (cell (0 + 6)).trans ?_
          rw [if_neg (by omega), if_pos rfl, eS]
        · refine (cell (0 + 7)).trans ?_
          rw [if_pos rfl, eB]
        · have hs : s < S := hs
          have hb : b < B := hb
          refine (cell (0 + (8 + (16 * s + b)))).trans ?_
          rw [if_neg (by omega), if_neg (by omega), a2 _ (by omega) (by omega)]; rfl
      · rw [ht, if_pos (show iz (-9) = -9 from rfl)]
        exact Tot.mk ⟨(bz_f hn).symm, fun _ => (w3 (iz ((tw T 2 0 1 1 6).2 : Nat)) (iz (-9))).trans (congrArg iz hr), fun z => absurd z hn, wj (iz ((tw T 2 0 1 1 6).2 : Nat)) (iz (-9)), o4 (iz ((tw T 2 0 1 1 6).2 : Nat)) (iz (-9))⟩
    · simp only [if_neg k2]
      have e1 : rdE T = 1 := by unfold rdE; rw [if_neg (fun z => z k1), if_pos k2]
      have hn : ¬ rdE T = -9 := by omega
      rw [if_pos (show iz (-9) = -9 from rfl)]
      unfold f_X6_readAll_b66
      rw [show lnA 29 = 72 from rfl, if_pos i7, if_pos i7, c7, mw_at, if_pos rfl, if_pos rfl]
      have o4 : ∀ w, Off RMd M (mw (mw (mw M2 27 3 (iz ((1 : Nat) : Int))) 29 6 (iz (-9))) 29 7 w) := fun w => ((o2.put (Or.inl rfl)).put (Or.inr rfl)).put (Or.inr rfl)
      refine Tot.mk ⟨(bz_f hn).symm, fun _ => ?_, fun z => absurd z hn, fun j hj => ?_, o4 _⟩
      · dsimp only
        rw [mw_ne (by omega), mw_ne (by omega), mw_at, if_pos rfl, e1]; rfl
      · dsimp only
        rw [mw_ne (by omega), mw_ne (by omega), mw_at, if_neg hj]; exact j27 j hj
  · have e0 : rdE T = 0 := by unfold rdE; rw [if_pos k1]
    have hn : ¬ rdE T = -9 := by omega
    rw [if_pos (show bz (sgn T 0 = 77) = 0 from bz_f k1), if_neg k1]
    have o4 : ∀ w, Off RMd M (mw M2 27 3 w) := fun w => o2.put (Or.inl rfl)
    refine Tot.mk ⟨(bz_f hn).symm, fun _ => ?_, fun z => absurd z hn, fun j hj => ?_, o4 _⟩
    · dsimp only
      rw [mw_at, if_pos rfl, e0]; rfl
    · dsimp only
      rw [mw_at, if_neg hj]; exact j27 j hj
