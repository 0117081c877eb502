theorem g_note (D : Ds) (hD : DOk D) (x y z : Int32) : Agree h_L_note (f_X5_note x y z) (f_X6_note x y z) D := by
  obtain ⟨s, rfl, s1, s2⟩ := izself x
  obtain ⟨b, rfl, b1, b2⟩ := izself y
  obtain ⟨v, rfl, v1, v2⟩ := izself z
  have hP := hD.2.2.1
  have no : ∀ (M : Mem) (n : Nat), 0 < n → n < 100 → f_X6_note_b34 (iz s) (iz b) (iz v) (iz n) M = some (0, mw M 27 0 (iz n)) := fun M n h1 h2 => by
    unfold f_X6_note_b34
    exact ref_no h1 h2 M _ _
  have mi : ∀ M, f_X6_in (Int32.toInt64 (iz v)) 0 3 M = some (bz (0 ≤ v ∧ v ≤ 3), M) := fun M => by
    rw [show (0 : Int64) = Int32.toInt64 (iz 0) by decide, show (3 : Int64) = Int32.toInt64 (iz 3) by decide, in_eq M v1 v2 (by omega) (by omega) (by omega) (by omega)]
  have up : ∀ M, f_X5_requireUpTo 3 (iz v) M = if 0 ≤ v ∧ v ≤ (3 : Nat) then some (.ok (), M) else some (.error 0, M) := fun M => reqUpTo (n := 3) (by omega) v1 v2
  have mc : ∀ M, MRel M D → f_X6_isCell 30 (iz s) (iz b) M = some (bz ((0 ≤ s ∧ s < gS (dP D)) ∧ 0 ≤ b ∧ b < gB (dP D)), M) := fun M hM => isCell_eq hM.2.1 hP.1.1 rfl s1 s2 b1 b2
  by_cases cc : (0 ≤ s ∧ s < gS (dP D)) ∧ 0 ≤ b ∧ b < gB (dP D)
  · by_cases c : 0 ≤ v ∧ v ≤ 3
    · obtain ⟨w, rfl⟩ : ∃ w : Nat, v = (w : Int) := ⟨v.toNat, by omega⟩
      obtain ⟨s', rfl⟩ : ∃ s' : Nat, s = (s' : Int) := ⟨s.toNat, by omega⟩
      obtain ⟨b', rfl⟩ : ∃ b' : Nat, b = (b' : Int) := ⟨b.toNat, by omega⟩
      have hs : s' < gS (dP D) := by omega
      have hb : b' < gB (dP D) := by omega
      have hw : w < 4 := by omega
      refine Agree.yes (D' := D) hD (iz (nNote (dP D) s' b' w)) (fun M hM => ?_) (fun M hM => ?_)
      · unfold f_X5_note
        rw [reqCell hM hD s1 s2 b1 b2, if_pos cc, oe_ok, up, if_pos (by omega), oe_ok]
        refine Tot.ob ((c_make hM hD).mono ?_)
        intro ⟨_, M2⟩ ⟨a, b, o⟩
        have a : RD M2 (dP D) := a
        show Tot (ob (f_X2_numberOfNote (iz (s' : Int)) (iz (b' : Int)) (iz (w : Int)) M2) _) _
        rw [numberOfNote_eq a hP.1 hb hs hw, ob_some]
        exact Tot.mk ⟨rfl, b, o⟩
      · unfold f_X6_note
        rw [mc M hM, ob_some, if_neg (by rw [bz_t cc]; decide), mi, ob_some, if_neg (by rw [bz_t c]; decide)]
        unfold f_X6_note_b34
        rw [ref_yes]
        have o0 : Off MI M (mw M 27 0 0) := Off.rf.put (by unfold MI; omega)
        have h0 := hM.put (j := 0) (v := 0) (Or.inl rfl)
        refine Tot.ob ((m_lay h0 hD).mono ?_)
        intro ⟨_, M2⟩ ⟨a, h2, e27, o⟩
        have a : LD M2 (dP D) := a
        have h2 : MRel M2 D := h2
        have o : Off MI (mw M 27 0 0) M2 := o
        have q0 : M2 27 0 = 0 := by
          have : M2 27 = mw M 27 0 0 27 := e27
          rw [this, mw_at, if_pos rfl]
        have h1' := hP.1.1.1
        have h2' := hP.1.1.2
        have hx := pg_lt hP.1.1 hs hb
        have hL := a.1 b' hb
        have sr := sp_rng hP.1 hb s'
        have hro := rho_RO (dP D) b' s'
        have hrr := rho_rng (dP D) b' s'
        have e9 : (iz (sp (dP D) b' s') = -9) = (sp (dP D) b' s' = -9) := by rw [show (-9 : Int32) = iz (-9) from rfl, iz_eq (by omega) (by omega) (by omega) (by omega)]
        show Tot (ob (f_X6_at (iz (s' : Int)) (iz (b' : Int)) M2) _) _
        rw [at_eq, ob_some, if_pos (inb_n hx (by omega)), cl_n (n := 16 * s' + b') (by omega), hL.1.1 s' hs]
        unfold nNote
        by_cases c9 : sp (dP D) b' s' = -9
        · have r9 := hro.2.mpr c9
          rw [if_pos (by rw [e9]; exact c9), if_pos (Or.inl r9), r9]
          exact Tot.mk ⟨rfl, q0, h2, o0.tr o⟩
        · have r9 : ¬ rho (dP D) b' s' = -9 := fun z => c9 (hro.2.mp z)
          have hsq := msq_ok a.1 hP.1.2.1 b' hb
          have ew : ∀ n : Nat, n < 100 → (iz (w : Int) = iz (n : Int)) = (w = n) := fun n hn => wz (by omega) n hn
          have ew0 : (iz (w : Int) = 0) = (w = 0) := ew 0 (by omega)
          have ew1 : (iz (w : Int) = 1) = (w = 1) := ew 1 (by omega)
          have ew3 : (iz (w : Int) = 3) = (w = 3) := ew 3 (by omega)
          have hvr := hv_rng (dP D) b' (sq (dP D) b') s'
          have kpt := lb_kept hL.2.1.2.2 (s := s') (by omega)
          have eh : (iz (hv (dP D) b' (sq (dP D) b') s') = -9) = (hv (dP D) b' (sq (dP D) b') s' = -9) := by rw [show (-9 : Int32) = iz (-9) from rfl, iz_eq (by omega) (by omega) (by omega) (by omega)]
          rw [if_neg (by rw [e9]; exact c9), if_pos (inb_n (n := b') (by omega) (by omega)), cl_n (n := b') (by omega), a.2 b' hb, handOf_eq hL hP.1.1 hb (by omega) hsq, ob_some, isCutHere_eq h2.2.1 a hP rfl hb hs, ob_some]
          by_cases w0 : w = 0
          · rw [if_pos (by rw [ew0]; exact w0), if_neg (show ¬ (rho (dP D) b' s' = -9 ∨ w = 1) by omega), if_neg (show ¬ (w = 3) by omega)]
            refine Tot.mk ⟨?_, q0, h2, o0.tr o⟩
            show iz (hv _ _ _ _) = iz _
            congr 1
            unfold hv
            by_cases k0 : rho (dP D) b' s' = 0
            · rw [if_pos (kpt.mpr k0), if_neg (show ¬ (rho (dP D) b' s' ≠ 0) from fun z => z k0), if_neg (show ¬ (w = 2) by omega)]
            · rw [if_neg (fun z => k0 (kpt.mp z)), if_pos k0]
          · rw [if_neg (by rw [ew0]; exact w0)]
            by_cases w1 : w = 1
            · rw [if_pos (by rw [ew1]; exact w1), if_pos (Or.inr w1), at_eq, ob_some, if_pos (inb_n hx (by omega)), cl_n (n := 16 * s' + b') (by omega), hL.1.2 s' hs]
              refine Tot.mk ⟨?_, q0, h2, o0.tr o⟩
              show iz (mr _ _) = iz _
              unfold mr
              rw [if_neg r9]
            · rw [if_neg (by rw [ew1]; exact w1), if_neg (show ¬ (rho (dP D) b' s' = -9 ∨ w = 1) by omega)]
              by_cases w3 : w = 3
              · rw [if_pos (by rw [ew3]; exact w3), if_pos w3]
                cases hc : cutH (dP D) b' s'
                · exact Tot.mk ⟨rfl, q0, h2, o0.tr o⟩
                · exact Tot.mk ⟨rfl, q0, h2, o0.tr o⟩
              · rw [if_neg (by rw [ew3]; exact w3), if_neg w3]
                by_cases k0 : rho (dP D) b' s' = 0
                · have hn : ¬ hv (dP D) b' (sq (dP D) b') s' = -9 := by
                    unfold hv
                    rw [if_pos (kpt.mpr k0)]
                    split <;> omega
                  rw [if_neg (by rw [eh]; exact hn), if_neg (show ¬ (rho (dP D) b' s' ≠ 0) from fun z => z k0), if_pos (show w = 2 by omega)]
                  unfold f_X6_note_b169
                  by_cases k1 : cutH (dP D) b' s' = true
                  · rw [if_neg (show ¬ (bz (cutH (dP D) b' s' = true) = 0) by rw [bz_t k1]; decide), if_neg (show ¬ (hd (dP D) b' s' ∧ cutH (dP D) b' s' = false) from fun z => by rw [k1] at z; exact Bool.noConfusion z.2)]
                    exact Tot.mk ⟨rfl, q0, h2, o0.tr o⟩
                  · rw [if_pos (show bz (cutH (dP D) b' s' = true) = 0 from bz_f k1), isHeld_eq h2.2.1 hP.1 rfl hs hb, ob_some]
                    have kf : cutH (dP D) b' s' = false := by
                      cases e : cutH (dP D) b' s'
                      · rfl
                      · exact absurd e k1
                    by_cases k2 : hd (dP D) b' s'
                    · rw [if_neg (show ¬ (bz (hd (dP D) b' s') = 0) by rw [bz_t k2]; decide), if_pos (show hd (dP D) b' s' ∧ cutH (dP D) b' s' = false from ⟨k2, kf⟩)]
                      exact Tot.mk ⟨rfl, q0, h2, o0.tr o⟩
                    · rw [if_pos (show bz (hd (dP D) b' s') = 0 from bz_f k2), if_neg (show ¬ (hd (dP D) b' s' ∧ cutH (dP D) b' s' = false) from fun z => k2 z.1)]
                      exact Tot.mk ⟨rfl, q0, h2, o0.tr o⟩
                · have hn : hv (dP D) b' (sq (dP D) b') s' = -9 := by
                    unfold hv
                    rw [if_neg (fun z => k0 (kpt.mp z))]
                  rw [if_pos (by rw [eh]; exact hn), if_pos k0]
                  exact Tot.mk ⟨rfl, q0, h2, o0.tr o⟩
    · refine Agree.no hD 0 2 rfl (by omega) (fun M hM => ?_) (fun M hM => ?_)
      · unfold f_X5_note
        rw [reqCell hM hD s1 s2 b1 b2, if_pos cc, oe_ok, up, if_neg (by omega), oe_er]
      · unfold f_X6_note
        rw [mc M hM, ob_some, if_neg (by rw [bz_t cc]; decide), mi, ob_some, if_pos (show bz (0 ≤ v ∧ v ≤ 3) = 0 from bz_f c)]
        exact ⟨_, no M 2 (by omega) (by omega)⟩
  · refine Agree.no hD 2 1 rfl (by omega) (fun M hM => ?_) (fun M hM => ?_)
    · unfold f_X5_note
      rw [reqCell hM hD s1 s2 b1 b2, if_neg cc, oe_er]
    · unfold f_X6_note
      rw [mc M hM, ob_some, if_pos (show bz ((0 ≤ s ∧ s < gS (dP D)) ∧ 0 ≤ b ∧ b < gB (dP D)) = 0 from bz_f cc)]
      exact ⟨_, no M 1 (by omega) (by omega)⟩
