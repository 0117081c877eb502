theorem g_cell (D : Ds) (hD : DOk D) (x y z : Int32) : Agree h_L_cell (f_X5_cell x y z) (f_X6_cell x y z) D := by
  obtain ⟨s, rfl, s1, s2⟩ := izself x
  obtain ⟨b, rfl, b1, b2⟩ := izself y
  have hP := hD.2.2.1
  have mc : ∀ M, MRel M D → f_X6_isCell 30 (iz s) (iz b) M = some (bz ((0 ≤ s ∧ s < gS (dP D)) ∧ 0 ≤ b ∧ b < gB (dP D)), M) := fun M hM => isCell_eq hM.2.1 hP.1.1 rfl s1 s2 b1 b2
  by_cases cc : (0 ≤ s ∧ s < gS (dP D)) ∧ 0 ≤ b ∧ b < gB (dP D)
  · obtain ⟨s', rfl⟩ : ∃ s' : Nat, s = (s' : Int) := ⟨s.toNat, by omega⟩
    obtain ⟨b', rfl⟩ : ∃ b' : Nat, b = (b' : Int) := ⟨b.toNat, by omega⟩
    have hs : s' < gS (dP D) := by omega
    have hb : b' < gB (dP D) := by omega
    have h4 := hP.1.1.1
    refine Agree.yes (D' := D) hD (if z = 0 then iz (gC (dP D) s' b') else iz (sp (dP D) b' s')) (fun M hM => ?_) (fun M hM => ?_)
    · unfold f_X5_cell
      rw [reqCell hM hD s1 s2 b1 b2, if_pos cc, oe_ok]
      by_cases c : z = 0
      · rw [if_pos c, if_pos c, written_nat hM.2.1 hP.1.1 hs hb, ob_some]
        exact Tot.mk ⟨rfl, hM, Off.rf⟩
      · rw [if_neg c, if_neg c, sounding_sp hM.2.1 hP.1 (by omega) hb, ob_some]
        exact Tot.mk ⟨rfl, hM, Off.rf⟩
    · unfold f_X6_cell
      rw [mc M hM, ob_some, if_neg (by rw [bz_t cc]; decide)]
      unfold f_X6_cell_b18
      rw [ref_yes]
      have o0 : Off MI M (mw M 27 0 0) := Off.rf.put (by unfold MI; omega)
      have h0 := hM.put (j := 0) (v := 0) (Or.inl rfl)
      refine Tot.ob ((laySounds_tot h0.2.1 hP.1 rfl (by omega)).mono ?_)
      intro ⟨_, M2⟩ ⟨a, o⟩
      have o : Off (fun d => d = 36) (mw M 27 0 0) M2 := o
      have a : ∀ s b, s < gS (dP D) → b < gB (dP D) → M2 36 (16 * s + b) = iz (sp (dP D) b s) := a
      have h2 : MRel M2 D := h0.tmp (o.wk (fun d hd => by unfold MT; omega))
      have q0 : M2 27 0 = 0 := by rw [o 27 (by omega), mw_at, if_pos rfl]
      have oo : Off MI M M2 := o0.tr (o.wk (fun d hd => by unfold MI; omega))
      have hx := pg_lt hP.1.1 hs hb
      dsimp only
      by_cases c : z = 0
      · rw [if_pos c, if_pos c, at_eq, ob_some, l8, if_pos (inb_n (n := 8 + (16 * s' + b')) (by omega) (by omega)), cl_n (n := 8 + (16 * s' + b')) (by omega), h2.2.1.C hs hb]
        exact Tot.mk ⟨rfl, q0, h2, oo⟩
      · rw [if_neg c, if_neg c, at_eq, ob_some, if_pos (inb_n hx (by omega)), cl_n (n := 16 * s' + b') (by omega), a s' b' hs hb]
        exact Tot.mk ⟨rfl, q0, h2, oo⟩
  · refine Agree.no hD 2 1 rfl (by omega) (fun M hM => ?_) (fun M hM => ?_)
    · unfold f_X5_cell
      rw [reqCell hM hD s1 s2 b1 b2, if_neg cc, oe_er]
    · unfold f_X6_cell
      rw [mc M hM, ob_some, if_pos (show bz ((0 ≤ s ∧ s < gS (dP D)) ∧ 0 ≤ b ∧ b < gB (dP D)) = 0 from bz_f cc)]
      unfold f_X6_cell_b18
      exact ⟨_, ref_no (n := 1) (by omega) (by omega) M _ _⟩
