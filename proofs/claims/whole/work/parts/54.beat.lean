theorem bst_cnt (f : Nat → Bool) {n : Nat} (hn : n ≤ 5) (hz : ∀ k, n ≤ k → f k = false) : sg (fun k => b01 (f k)) n = nf f := by
  rw [← sg_nf]
  exact (sg_up (fun i hi => by show b01 (f i) = 0; rw [hz i hi]; rfl) 5 hn).symm
theorem g_beat (D : Ds) (hD : DOk D) (y z : Int32) : Agree h_L_beat (f_X5_beat y z) (f_X6_beat y z) D := by
  obtain ⟨b, rfl, b1, b2⟩ := izself y
  obtain ⟨v, rfl, v1, v2⟩ := izself z
  have hP := hD.2.2.1
  have no : ∀ (M : Mem) (n : Nat), 0 < n → n < 100 → f_X6_beat_b33 (iz b) (iz v) (iz n) M = some (0, mw M 27 0 (iz n)) := fun M n h1 h2 => by
    unfold f_X6_beat_b33
    exact ref_no h1 h2 M _ _
  have mi : ∀ M, f_X6_in (Int32.toInt64 (iz v)) 0 4 M = some (bz (0 ≤ v ∧ v ≤ 4), M) := fun M => by
    rw [show (0 : Int64) = Int32.toInt64 (iz 0) by decide, show (4 : Int64) = Int32.toInt64 (iz 4) by decide, in_eq M v1 v2 (by omega) (by omega) (by omega) (by omega)]
  have up : ∀ M, f_X5_requireUpTo 4 (iz v) M = if 0 ≤ v ∧ v ≤ (4 : Nat) then some (.ok (), M) else some (.error 0, M) := fun M => reqUpTo (n := 4) (by omega) v1 v2
  have mb : ∀ M, MRel M D → f_X6_isBeat 30 (iz b) M = some (bz (0 ≤ b ∧ b < gB (dP D)), M) := fun M hM => isBeat_eq hM.2.1 hP.1.1 rfl b1 b2
  by_cases cb : 0 ≤ b ∧ b < gB (dP D)
  · by_cases c : 0 ≤ v ∧ v ≤ 4
    · obtain ⟨w, rfl⟩ : ∃ w : Nat, v = (w : Int) := ⟨v.toNat, by omega⟩
      obtain ⟨b', rfl⟩ : ∃ b' : Nat, b = (b' : Int) := ⟨b.toNat, by omega⟩
      have hb : b' < gB (dP D) := by omega
      have hw : w < 5 := by omega
      refine Agree.yes (D' := D) hD (nBeat (dP D) b' w) (fun M hM => ?_) (fun M hM => ?_)
      · unfold f_X5_beat
        rw [reqBeat hM hD b1 b2, if_pos cb, oe_ok, up, if_pos (by omega), oe_ok]
        refine Tot.ob ((c_make hM hD).mono ?_)
        intro ⟨_, M2⟩ ⟨a, b, o⟩
        have a : RD M2 (dP D) := a
        show Tot (ob (f_X2_numberOfBeat (iz (b' : Int)) (iz (w : Int)) M2) _) _
        rw [numberOfBeat_eq a hP.1 hb hw, ob_some]
        exact Tot.mk ⟨rfl, b, o⟩
      · unfold f_X6_beat
        rw [mb M hM, ob_some, if_neg (by rw [bz_t cb]; decide), mi, ob_some, if_neg (by rw [bz_t c]; decide)]
        unfold f_X6_beat_b33
        rw [ref_yes]
        have o0 : Off MI M (mw M 27 0 0) := Off.rf.put (by unfold MI; omega)
        have h0 := hM.put (j := 0) (v := 0) (Or.inl rfl)
        refine Tot.ob ((m_lay h0 hD).mono ?_)
        intro ⟨_, M2⟩ ⟨a, h2, e27, o⟩
        have a : LD M2 (dP D) := a
        have h2 : MRel M2 D := h2
        have o : Off MI (mw M 27 0 0) M2 := o
        have q0 : M2 27 0 = 0 := by
          have : M2 27 = mw M 27 0 0 27 := e27
          rw [this, mw_at, if_pos rfl]
        have h2' := hP.1.1.2
        have hL := a.1 b' hb
        have n4 := mnn4 hL
        have hsq := msq_ok a.1 hP.1.2.1 b' hb
        have ew : ∀ n : Nat, n < 100 → (iz (w : Int) = iz (n : Int)) = (w = n) := fun n hn => wz (by omega) n hn
        have ew0 : (iz (w : Int) = 0) = (w = 0) := ew 0 (by omega)
        have ew1 : (iz (w : Int) = 1) = (w = 1) := ew 1 (by omega)
        have ew2 : (iz (w : Int) = 2) = (w = 2) := ew 2 (by omega)
        have ew3 : (iz (w : Int) = 3) = (w = 3) := ew 3 (by omega)
        have ib := inb_n (n := b') (N := 16) (by omega) (by omega)
        have n0 : M2 39 b' = iz (nn (dP D) b') := hL.2.1.1
        show Tot (lq2 (f_X6_beat_b54 (iz (b' : Int)) (iz (w : Int))) 9999 0 0 M2) _
        rw [show (0 : Int32) = iz ((0 : Nat) : Int) from rfl]
        refine up2_tot (nn (dP D) b' + 1) (fun k x M' => M' = M2 ∧ x = iz (sg (fun k => b01 (decide (pkk (dP D) b' k))) k)) ?_ ?_ 9999 0 _ M2 (by omega) ⟨rfl, rfl⟩ (by omega)
        · intro K k x M' hk ⟨e1, e2⟩ hK
          subst e1 e2
          unfold f_X6_beat_b54
          rw [if_pos ib, cl_n (n := b') (by omega), n0, if_neg (by rw [ltz (by omega) (by omega)]; omega), can_eq hL hP.1.1 hb (by omega), ob_some, a1z]
          by_cases p : pkk (dP D) b' k
          · rw [if_neg (by rw [bz_t p]; decide), show (1 : Int32) = iz 1 from rfl, iz_add]
            refine hK _ _ ⟨rfl, ?_⟩
            rw [sg, decide_eq_true p]
            rfl
          · rw [if_pos (show bz (pkk (dP D) b' k) = 0 from bz_f p), show (0 : Int32) = iz 0 from rfl, iz_add]
            refine hK _ _ ⟨rfl, ?_⟩
            rw [sg, decide_eq_false p]
            rfl
        · intro K x M' ⟨e1, e2⟩
          subst e1 e2
          unfold f_X6_beat_b54
          rw [if_pos ib, cl_n (n := b') (by omega), n0, if_pos (by rw [ltz (by omega) (by omega)]; omega)]
          have cnt := bst_cnt (fun k => decide (pkk (dP D) b' k)) (n := nn (dP D) b' + 1) (by omega) (fun k hk => decide_eq_false (fun y => by have := y.1; unfold nn at hk; omega))
          rw [cnt]
          unfold f_X6_beat_b89 nBeat
          by_cases w0 : w = 0
          · rw [if_pos (by rw [ew0]; exact w0), if_pos ib, cl_n (n := b') (by omega), a.2 b' hb, if_pos w0]
            exact Tot.mk ⟨rfl, q0, h2, o0.tr o⟩
          · rw [if_neg (by rw [ew0]; exact w0), if_neg w0]
            by_cases w1 : w = 1
            · rw [if_pos (by rw [ew1]; exact w1), if_pos w1]
              exact Tot.mk ⟨rfl, q0, h2, o0.tr o⟩
            · rw [if_neg (by rw [ew1]; exact w1), if_neg w1]
              by_cases w2 : w = 2
              · rw [if_pos (by rw [ew2]; exact w2), if_pos w2, before_eq a hP.1.1 hb, ob_some, if_pos ib, cl_n (n := b') (by omega), a.2 b' hb, costOf_eq h2.2.1 a.1 hP rfl hb hsq (mbef_ok a.1 hP.1.2.1 hb), ob_some]
                exact Tot.mk ⟨rfl, q0, h2, o0.tr o⟩
              · rw [if_neg (by rw [ew2]; exact w2), if_neg w2]
                by_cases w3 : w = 3
                · rw [if_pos (by rw [ew3]; exact w3), if_pos ib, cl_n (n := b') (by omega), n0, if_pos w3]
                  exact Tot.mk ⟨rfl, q0, h2, o0.tr o⟩
                · rw [if_neg (by rw [ew3]; exact w3), if_pos ib, cl_n (n := b') (by omega), hL.2.2, if_neg w3]
                  exact Tot.mk ⟨rfl, q0, h2, o0.tr o⟩
    · refine Agree.no hD 0 2 rfl (by omega) (fun M hM => ?_) (fun M hM => ?_)
      · unfold f_X5_beat
        rw [reqBeat hM hD b1 b2, if_pos cb, oe_ok, up, if_neg (by omega), oe_er]
      · unfold f_X6_beat
        rw [mb M hM, ob_some, if_neg (by rw [bz_t cb]; decide), mi, ob_some, if_pos (show bz (0 ≤ v ∧ v ≤ 4) = 0 from bz_f c)]
        exact ⟨_, no M 2 (by omega) (by omega)⟩
  · refine Agree.no hD 2 1 rfl (by omega) (fun M hM => ?_) (fun M hM => ?_)
    · unfold f_X5_beat
      rw [reqBeat hM hD b1 b2, if_neg cb, oe_er]
    · unfold f_X6_beat
      rw [mb M hM, ob_some, if_pos (show bz (0 ≤ b ∧ b < gB (dP D)) = 0 from bz_f cb)]
      exact ⟨_, no M 1 (by omega) (by omega)⟩
