theorem reqBeat {M : Mem} {D : Ds} (h : CRel M D) (hD : DOk D) {b : Int} (b1 : -2147483648 ≤ b) (b2 : b < 2147483648) : f_X5_requireBeat (iz b) M = if 0 ≤ b ∧ b < gB (dP D) then some (.ok (), M) else some (.error 2, M) := by
  unfold f_X5_requireBeat
  rw [hasBeat_eq h.2.1 hD.2.2.1.1.1 b1 b2, ob_some]
  by_cases d : 0 ≤ b ∧ b < gB (dP D)
  · rw [if_neg (by rw [bz_t d]; decide), if_pos d]
  · rw [if_pos (show bz (0 ≤ b ∧ b < gB (dP D)) = 0 from bz_f d), if_neg d]
theorem g_hand (D : Ds) (hD : DOk D) (x y z : Int32) : Agree h_L_hand (f_X5_hand x y z) (f_X6_hand x y z) D := by
  obtain ⟨s, rfl, s1, s2⟩ := izself x
  obtain ⟨b, rfl, b1, b2⟩ := izself y
  obtain ⟨v, rfl, v1, v2⟩ := izself z
  have hP := hD.2.2.1
  have no : ∀ (M : Mem) (n : Nat), 0 < n → n < 100 → f_X6_hand_b43 (iz s) (iz b) (iz v) (iz n) M = some (0, mw M 27 0 (iz n)) := fun M n h1 h2 => by
    unfold f_X6_hand_b43
    exact ref_no h1 h2 M _ _
  have mh : ∀ M, f_X6_in (Int32.toInt64 (iz s)) 0 1 M = some (bz (0 ≤ s ∧ s ≤ 1), M) := fun M => by
    rw [show (0 : Int64) = Int32.toInt64 (iz 0) by decide, show (1 : Int64) = Int32.toInt64 (iz 1) by decide, in_eq M s1 s2 (by omega) (by omega) (by omega) (by omega)]
  have mi : ∀ M, f_X6_in (Int32.toInt64 (iz v)) 0 4 M = some (bz (0 ≤ v ∧ v ≤ 4), M) := fun M => by
    rw [show (0 : Int64) = Int32.toInt64 (iz 0) by decide, show (4 : Int64) = Int32.toInt64 (iz 4) by decide, in_eq M v1 v2 (by omega) (by omega) (by omega) (by omega)]
  have up : ∀ M, f_X5_requireUpTo 4 (iz v) M = if 0 ≤ v ∧ v ≤ (4 : Nat) then some (.ok (), M) else some (.error 0, M) := fun M => reqUpTo (n := 4) (by omega) v1 v2
  have mb : ∀ M, MRel M D → f_X6_isBeat 30 (iz b) M = some (bz (0 ≤ b ∧ b < gB (dP D)), M) := fun M hM => isBeat_eq hM.2.1 hP.1.1 rfl b1 b2
  have e0 : (iz s < 0) = (s < 0) := by rw [show (0 : Int32) = iz 0 from rfl, iz_lt s1 s2 (by omega) (by omega)]
  have e2 : (iz s < 2) = (s < 2) := by rw [show (2 : Int32) = iz 2 from rfl, iz_lt s1 s2 (by omega) (by omega)]
  by_cases ch : 0 ≤ s ∧ s ≤ 1
  · by_cases cb : 0 ≤ b ∧ b < gB (dP D)
    · by_cases c : 0 ≤ v ∧ v ≤ 4
      · obtain ⟨w, rfl⟩ : ∃ w : Nat, v = (w : Int) := ⟨v.toNat, by omega⟩
        obtain ⟨s', rfl⟩ : ∃ s' : Nat, s = (s' : Int) := ⟨s.toNat, by omega⟩
        obtain ⟨b', rfl⟩ : ∃ b' : Nat, b = (b' : Int) := ⟨b.toNat, by omega⟩
        have hs : s' < 2 := by omega
        have hb : b' < gB (dP D) := by omega
        have hw : w < 5 := by omega
        refine Agree.yes (D' := D) hD (iz (nHand (dP D) s' b' w)) (fun M hM => ?_) (fun M hM => ?_)
        · unfold f_X5_hand
          rw [if_neg (by rw [e0]; omega), if_pos (by rw [e2]; omega), reqBeat hM hD b1 b2, if_pos cb, oe_ok, up, if_pos (by omega), oe_ok]
          refine Tot.ob ((c_make hM hD).mono ?_)
          intro ⟨_, M2⟩ ⟨a, b, o⟩
          have a : RD M2 (dP D) := a
          show Tot (ob (f_X2_numberOfHand (iz (s' : Int)) (iz (b' : Int)) (iz (w : Int)) M2) _) _
          rw [numberOfHand_eq a hP.1 hb hs hw, ob_some]
          exact Tot.mk ⟨rfl, b, o⟩
        · unfold f_X6_hand
          rw [mh, ob_some, if_neg (by rw [bz_t ch]; decide), mb M hM, ob_some, if_neg (by rw [bz_t cb]; decide), mi, ob_some, if_neg (by rw [bz_t c]; decide)]
          unfold f_X6_hand_b43
          rw [ref_yes]
          have o0 : Off MI M (mw M 27 0 0) := Off.rf.put (by unfold MI; omega)
          have h0 := hM.put (j := 0) (v := 0) (Or.inl rfl)
          refine Tot.ob ((m_lay h0 hD).mono ?_)
          intro ⟨_, M2⟩ ⟨a, h2, e27, o⟩
          have a : LD M2 (dP D) := a
          have h2 : MRel M2 D := h2
          have o : Off MI (mw M 27 0 0) M2 := o
          have q0 : M2 27 0 = 0 := by
            have : M2 27 = mw M 27 0 0 27 := e27
            rw [this, mw_at, if_pos rfl]
          have h2' := hP.1.1.2
          have hL := a.1 b' hb
          have hsq := msq_ok a.1 hP.1.2.1 b' hb
          have ew : ∀ n : Nat, n < 100 → (iz (w : Int) = iz (n : Int)) = (w = n) := fun n hn => wz (by omega) n hn
          have ew0 : (iz (w : Int) = 0) = (w = 0) := ew 0 (by omega)
          have ew1 : (iz (w : Int) = 1) = (w = 1) := ew 1 (by omega)
          have ew2 : (iz (w : Int) = 2) = (w = 2) := ew 2 (by omega)
          have ew3 : (iz (w : Int) = 3) = (w = 3) := ew 3 (by omega)
          have fin : ∀ r : Int, r = nHand (dP D) s' b' w → Tot (some (iz r, M2)) (fun x => x.1 = iz (nHand (dP D) s' b' w) ∧ x.2 27 0 = 0 ∧ MRel x.2 D ∧ Off MI M x.2) := fun r hr => Tot.mk ⟨by rw [hr], q0, h2, o0.tr o⟩
          dsimp only
          rw [if_pos (inb_n (n := b') (by omega) (by omega)), cl_n (n := b') (by omega), a.2 b' hb]
          by_cases w0 : w = 0
          · rw [if_pos (by rw [ew0]; exact w0), mto_eq hL hP.1.1 hb hs, ob_some, mfrom_eq hs, ob_some, iz_sub]
            refine fin _ ?_
            unfold nHand
            rw [if_pos w0]
            rcases (show s' = 0 ∨ s' = 1 by omega) with rfl | rfl
            · rw [if_pos rfl, if_pos rfl, if_pos rfl]; omega
            · rw [if_neg (by omega), if_neg (by omega), if_neg (by omega)]
          · rw [if_neg (by rw [ew0]; exact w0)]
            by_cases w1 : w = 1
            · rw [if_pos (by rw [ew1]; exact w1), position_eq hL hP.1 hb hs hsq, ob_some]
              exact fin _ (by unfold nHand; rw [if_neg w0, if_pos w1])
            · rw [if_neg (by rw [ew1]; exact w1)]
              by_cases w2 : w = 2
              · rw [if_pos (by rw [ew2]; exact w2), mfrom_eq hs, ob_some, mto_eq hL hP.1.1 hb hs, ob_some, mwidth_eq hL hP.1 hb hsq, ob_some]
                exact fin _ (by unfold nHand; rw [if_neg w0, if_neg w1, if_pos w2])
              · rw [if_neg (by rw [ew2]; exact w2)]
                by_cases w3 : w = 3
                · rw [if_pos (by rw [ew3]; exact w3), misRolled_eq h2.2.1 hL hP.1 rfl hb hs hsq, ob_some]
                  by_cases k : ro (dP D) b' s' (sq (dP D) b')
                  · rw [if_neg (by rw [bz_t k]; decide)]
                    exact fin 1 (by unfold nHand; rw [if_neg w0, if_neg w1, if_neg w2, if_pos w3, if_pos k])
                  · rw [if_pos (show bz (ro (dP D) b' s' (sq (dP D) b')) = 0 from bz_f k)]
                    exact fin 0 (by unfold nHand; rw [if_neg w0, if_neg w1, if_neg w2, if_pos w3, if_neg k])
                · rw [if_neg (by rw [ew3]; exact w3), before_eq a hP.1.1 hb, ob_some, mmove_eq a.1 hP.1 hb hs hsq (mbef_ok a.1 hP.1.2.1 hb), ob_some]
                  exact fin _ (by unfold nHand; rw [if_neg w0, if_neg w1, if_neg w2, if_neg w3])
      · refine Agree.no hD 0 2 rfl (by omega) (fun M hM => ?_) (fun M hM => ?_)
        · unfold f_X5_hand
          rw [if_neg (by rw [e0]; omega), if_pos (by rw [e2]; omega), reqBeat hM hD b1 b2, if_pos cb, oe_ok, up, if_neg (by omega), oe_er]
        · unfold f_X6_hand
          rw [mh, ob_some, if_neg (by rw [bz_t ch]; decide), mb M hM, ob_some, if_neg (by rw [bz_t cb]; decide), mi, ob_some, if_pos (show bz (0 ≤ v ∧ v ≤ 4) = 0 from bz_f c)]
          exact ⟨_, no M 2 (by omega) (by omega)⟩
    · refine Agree.no hD 2 1 rfl (by omega) (fun M hM => ?_) (fun M hM => ?_)
      · unfold f_X5_hand
        rw [if_neg (by rw [e0]; omega), if_pos (by rw [e2]; omega), reqBeat hM hD b1 b2, if_neg cb, oe_er]
      · unfold f_X6_hand f_X6_hand_b22
        rw [mh, ob_some, if_neg (by rw [bz_t ch]; decide), mb M hM, ob_some, if_pos (show bz (0 ≤ b ∧ b < gB (dP D)) = 0 from bz_f cb)]
        exact ⟨_, no M 1 (by omega) (by omega)⟩
  · refine Agree.no hD 2 1 rfl (by omega) (fun M hM => ?_) (fun M hM => ?_)
    · unfold f_X5_hand
      by_cases c : s < 0
      · rw [if_pos (by rw [e0]; exact c)]
      · rw [if_neg (by rw [e0]; exact c), if_neg (by rw [e2]; omega)]
    · unfold f_X6_hand f_X6_hand_b22
      rw [mh, ob_some, if_pos (show bz (0 ≤ s ∧ s ≤ 1) = 0 from bz_f ch)]
      exact ⟨_, no M 1 (by omega) (by omega)⟩
