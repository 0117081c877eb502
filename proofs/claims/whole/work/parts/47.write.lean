theorem ref_no {n : Nat} (h1 : 0 < n) (h2 : n < 100) {α : Type} (M : Mem) (F G : Mem → Option α) : ob (f_X6_refused (iz n) M) (fun x M2 => if x = 0 then F M2 else G M2) = G (mw M 27 0 (iz n)) := by
  rw [refused_eq h2, ob_some, if_neg (by rw [bz_t h1]; decide)]
theorem ref_yes {α : Type} (M : Mem) (F G : Mem → Option α) : ob (f_X6_refused 0 M) (fun x M2 => if x = 0 then F M2 else G M2) = F (mw M 27 0 0) := by
  have rf : f_X6_refused 0 M = some (bz (0 < 0), mw M 27 0 (iz ((0 : Nat) : Int))) := refused_eq (n := 0) (by omega) M
  rw [rf, ob_some, if_pos (show bz ((0 : Nat) < 0) = 0 from bz_f (by omega))]
  rfl
/-- a model's act, from the free refusal on -/
theorem m_go {M : Mem} {D : Ds} {P' : Pg} {res : Int32} (h : MRel M D) (hD : DOk D) (F : Unit → Mem → Option (Int32 × Mem)) (hF : ∀ u M2, PR M2 30 0 (dP D) → Tot (F u M2) (fun y => y.1 = res ∧ PR y.2 30 0 P' ∧ Off (fun d => d = 30) M2 y.2)) : Tot (ob (f_X6_remember (mw M 27 0 0)) F) (fun y => y.1 = res ∧ y.2 27 0 = 0 ∧ MRel y.2 (dPut (dRem D) P') ∧ Off MI M y.2) := by
  have o0 : Off MI M (mw M 27 0 0) := Off.rf.put (by unfold MI; omega)
  refine (m_act (h.put (j := 0) (v := 0) (Or.inl rfl)) hD F hF).mono ?_
  intro y ⟨a, b, c, d⟩
  exact ⟨a, by rw [b, mw_at, if_pos rfl], c, o0.tr d⟩
theorem reqCell {M : Mem} {D : Ds} (h : CRel M D) (hD : DOk D) {s b : Int} (s1 : -2147483648 ≤ s) (s2 : s < 2147483648) (b1 : -2147483648 ≤ b) (b2 : b < 2147483648) : f_X5_requireCell (iz s) (iz b) M = if (0 ≤ s ∧ s < gS (dP D)) ∧ 0 ≤ b ∧ b < gB (dP D) then some (.ok (), M) else some (.error 2, M) := by
  unfold f_X5_requireCell f_X5_requireStaff f_X5_requireBeat
  have hP := hD.2.2.1.1.1
  rw [hasStaff_eq h.2.1 hP s1 s2, ob_some]
  by_cases c : 0 ≤ s ∧ s < gS (dP D)
  · rw [if_neg (by rw [bz_t c]; decide), oe_ok, hasBeat_eq h.2.1 hP b1 b2, ob_some]
    by_cases d : 0 ≤ b ∧ b < gB (dP D)
    · rw [if_neg (by rw [bz_t d]; decide), oe_ok, if_pos ⟨c, d⟩]
    · rw [if_pos (show bz (0 ≤ b ∧ b < gB (dP D)) = 0 from bz_f d), oe_er, if_neg (fun z => d z.2)]
  · rw [if_pos (show bz (0 ≤ s ∧ s < gS (dP D)) = 0 from bz_f c), oe_er, if_neg (fun z => c z.1)]
theorem g_write (D : Ds) (hD : DOk D) (x y z : Int32) : Agree h_L_write (f_X5_write x y z) (f_X6_write x y z) D := by
  obtain ⟨s, rfl, s1, s2⟩ := izself x
  obtain ⟨b, rfl, b1, b2⟩ := izself y
  obtain ⟨v, rfl, v1, v2⟩ := izself z
  have hP := hD.2.2.1
  have no63 : ∀ (M : Mem) (n : Nat), 0 < n → n < 100 → f_X6_write_b63 (iz s) (iz b) (iz v) (iz n) M = some (0, mw M 27 0 (iz n)) := fun M n h1 h2 => by
    unfold f_X6_write_b63
    exact ref_no h1 h2 M _ _
  have e99 : (iz v = 99) = (v = 99) := by rw [show (99 : Int32) = iz 99 from rfl, iz_eq v1 v2 (by omega) (by omega)]
  have em1 : (iz v = -1) = (v = -1) := by rw [show (-1 : Int32) = iz (-1) from rfl, iz_eq v1 v2 (by omega) (by omega)]
  by_cases cc : (0 ≤ s ∧ s < gS (dP D)) ∧ 0 ≤ b ∧ b < gB (dP D)
  · have mc : ∀ M, MRel M D → f_X6_isCell 30 (iz s) (iz b) M = some (bz ((0 ≤ s ∧ s < gS (dP D)) ∧ 0 ≤ b ∧ b < gB (dP D)), M) := fun M hM => isCell_eq hM.2.1 hP.1.1 rfl s1 s2 b1 b2
    have mi : ∀ M, f_X6_in (Int32.toInt64 (iz v)) (-1) 60 M = some (bz (-1 ≤ v ∧ v ≤ 60), M) := fun M => by
      rw [show (-1 : Int64) = Int32.toInt64 (iz (-1)) by decide, show (60 : Int64) = Int32.toInt64 (iz 60) by decide, in_eq M v1 v2 (by omega) (by omega) (by omega) (by omega)]
    obtain ⟨s', rfl⟩ : ∃ s' : Nat, s = (s' : Int) := ⟨s.toNat, by omega⟩
    obtain ⟨b', rfl⟩ : ∃ b' : Nat, b = (b' : Int) := ⟨b.toNat, by omega⟩
    have hs : s' < gS (dP D) := by omega
    have hb : b' < gB (dP D) := by omega
    by_cases cv : v = 99 ∨ (-1 ≤ v ∧ v ≤ 60)
    · by_cases cw : canW (dP D) s' b' v
      · -- it is written
        refine Agree.yes (D' := dPut (dRem D) (pwr (dP D) s' b' v)) (dPut_Ok (dRem_Ok hD) (pwr_Ok hP.1 (by omega))) (iz (gC (dP D) s' b')) (fun M hM => ?_) (fun M hM => ?_)
        · have b58 : Tot (f_X5_write_b58 (iz (s' : Int)) (iz (b' : Int)) (iz v) M) (fun x => x.1 = .ok (iz (gC (dP D) s' b')) ∧ CRel x.2 (dPut (dRem D) (pwr (dP D) s' b' v)) ∧ Off CI M x.2) := by
            unfold f_X5_write_b58
            refine c_act hM hD _ (fun _ M2 h2 => ?_)
            rw [written_nat h2 hP.1.1 hs hb, ob_some]
            have go : ∀ w : Int, w = (if v < 0 then -9 else v) → Tot (f_X5_write_b97 (iz (gC (dP D) s' b')) (iz w) (iz (b' : Int)) (iz (s' : Int)) 0 M2) (fun y => y.1 = .ok (iz (gC (dP D) s' b')) ∧ StRep y.2 0 (pwr (dP D) s' b' v) ∧ Off (RSt 0) M2 y.2) := fun w hw => by
              unfold f_X5_write_b97
              rw [put_eq h2 hP.1.1 hs hb, ob_some]
              have hst := st_put h2 hP.1.1 hs hb w
              have hok : cOk w := by
                rw [hw]
                by_cases c : v < 0
                · rw [if_pos c]; exact Or.inl rfl
                · rw [if_neg c]; unfold cOk; omega
              refine Tot.ob ((dropLooseHolds_tot hst (pput_W hP.1 s' b' hok)).mono ?_)
              intro ⟨_, M3⟩ ⟨a, o⟩
              have o1 : Off (RSt 0) M2 (mw M2 (iSt 0 + 2) (s' * 16 + b') (iz w)) := Off.rf.put ⟨by omega, by omega⟩
              refine Tot.mk ⟨rfl, ?_, o1.tr o⟩
              unfold pwr
              rw [← hw]
              exact a
            by_cases c : v = -1
            · rw [if_pos (by rw [em1]; exact c), show (-9 : Int32) = iz (-9) from rfl]
              exact go (-9) (by rw [if_pos (by omega)])
            · rw [if_neg (by rw [em1]; exact c)]
              exact go v (by rw [if_neg (by omega)])
          have b32 : Tot (f_X5_write_b32 (iz (s' : Int)) (iz (b' : Int)) (iz v) M) (fun x => x.1 = .ok (iz (gC (dP D) s' b')) ∧ CRel x.2 (dPut (dRem D) (pwr (dP D) s' b' v)) ∧ Off CI M x.2) := by
            unfold f_X5_write_b32
            by_cases c : v = 99
            · rw [if_pos (by rw [e99]; exact c), allowsHold_eq hM.2.1 hP.1 s1 s2 (by omega) b2, ob_some, if_neg]
              · exact b58
              · rcases cw with z | z
                · exact absurd c z
                · rw [bz_t]
                  · decide
                  · rw [show (b' : Int) - 1 = ((b' - 1 : Nat) : Int) by omega, wr_in hs (by omega)]
                    exact z.2
            · rw [if_neg (by rw [e99]; exact c)]
              exact b58
          unfold f_X5_write
          rw [reqCell hM hD s1 s2 b1 b2, if_pos cc, oe_ok]
          by_cases c : v = -1
          · rw [if_pos (by rw [em1]; exact c)]; exact b32
          · rw [if_neg (by rw [em1]; exact c)]
            by_cases d : v = 99
            · rw [if_pos (by rw [e99]; exact d)]; exact b32
            · rw [if_neg (by rw [e99]; exact d), isPitch_eq v1 v2, ob_some, if_neg (by rw [bz_t (by omega)]; decide)]
              exact b32
        · have b63 : Tot (f_X6_write_b63 (iz (s' : Int)) (iz (b' : Int)) (iz v) 0 M) (fun x => x.1 = iz (gC (dP D) s' b') ∧ x.2 27 0 = 0 ∧ MRel x.2 (dPut (dRem D) (pwr (dP D) s' b' v)) ∧ Off MI M x.2) := by
            unfold f_X6_write_b63
            rw [ref_yes]
            refine m_go hM hD _ (fun _ M2 h2 => ?_)
            have hx := pg_lt hP.1.1 hs hb
            rw [at_eq, ob_some, l8, if_pos (inb_n (n := 8 + (16 * s' + b')) (by omega) (by omega)), cl_n (n := 8 + (16 * s' + b')) (by omega), h2.C hs hb]
            refine Tot.ob ((mput_tot h2 hP.1 rfl hs hb (v := v) (by omega)).mono ?_)
            intro ⟨_, M3⟩ ⟨a, o⟩
            exact Tot.mk ⟨rfl, a, o⟩
          have b45 : Tot (f_X6_write_b45 (iz (s' : Int)) (iz (b' : Int)) (iz v) M) (fun x => x.1 = iz (gC (dP D) s' b') ∧ x.2 27 0 = 0 ∧ MRel x.2 (dPut (dRem D) (pwr (dP D) s' b' v)) ∧ Off MI M x.2) := by
            unfold f_X6_write_b45
            rw [canWrite_eq hM.2.1 hP.1 rfl hs hb v1 v2, ob_some, if_neg (by rw [bz_t cw]; decide)]
            exact b63
          unfold f_X6_write
          rw [mc M hM, ob_some, if_neg (by rw [bz_t cc]; decide), mi, ob_some]
          by_cases d : -1 ≤ v ∧ v ≤ 60
          · rw [if_neg (by rw [bz_t d]; decide)]; exact b45
          · rw [if_pos (show bz (-1 ≤ v ∧ v ≤ 60) = 0 from bz_f d), if_pos (by rw [e99]; omega)]; exact b45
      · -- a hold that follows a rest
        have c99 : v = 99 := by
          by_cases c : v = 99
          · exact c
          · exact absurd (Or.inl c) cw
        refine Agree.no hD 1 3 rfl (by omega) (fun M hM => ?_) (fun M hM => ?_)
        · unfold f_X5_write f_X5_write_b32
          rw [reqCell hM hD s1 s2 b1 b2, if_pos cc, oe_ok, if_neg (by rw [em1]; omega), if_pos (by rw [e99]; exact c99), if_pos (by rw [e99]; exact c99), allowsHold_eq hM.2.1 hP.1 s1 s2 (by omega) b2, ob_some, if_pos]
          refine bz_f (fun z => ?_)
          refine cw (Or.inr ?_)
          by_cases b0 : b' = 0
          · exfalso
            apply z
            unfold wr
            rw [if_neg (by omega)]
          · rw [show (b' : Int) - 1 = ((b' - 1 : Nat) : Int) by omega, wr_in hs (by omega)] at z
            exact ⟨by omega, z⟩
        · unfold f_X6_write f_X6_write_b45
          rw [mc M hM, ob_some, if_neg (by rw [bz_t cc]; decide), mi, ob_some, if_pos (show bz (-1 ≤ v ∧ v ≤ 60) = 0 from bz_f (by omega)), if_pos (by rw [e99]; exact c99), canWrite_eq hM.2.1 hP.1 rfl hs hb v1 v2, ob_some, if_pos (show bz (canW (dP D) s' b' v) = 0 from bz_f cw)]
          exact ⟨_, no63 M 3 (by omega) (by omega)⟩
    · refine Agree.no hD 0 2 rfl (by omega) (fun M hM => ?_) (fun M hM => ?_)
      · unfold f_X5_write
        rw [reqCell hM hD s1 s2 b1 b2, if_pos cc, oe_ok, if_neg (by rw [em1]; omega), if_neg (by rw [e99]; omega), isPitch_eq v1 v2, ob_some, if_pos (show bz (0 ≤ v ∧ v ≤ 60) = 0 from bz_f (by omega))]
      · unfold f_X6_write
        rw [mc M hM, ob_some, if_neg (by rw [bz_t cc]; decide), mi, ob_some, if_pos (show bz (-1 ≤ v ∧ v ≤ 60) = 0 from bz_f (by omega)), if_neg (by rw [e99]; omega)]
        exact ⟨_, no63 M 2 (by omega) (by omega)⟩
  · refine Agree.no hD 2 1 rfl (by omega) (fun M hM => ?_) (fun M hM => ?_)
    · unfold f_X5_write
      rw [reqCell hM hD s1 s2 b1 b2, if_neg cc, oe_er]
    · unfold f_X6_write
      rw [isCell_eq hM.2.1 hP.1.1 rfl s1 s2 b1 b2, ob_some, if_pos (show bz ((0 ≤ s ∧ s < gS (dP D)) ∧ 0 ≤ b ∧ b < gB (dP D)) = 0 from bz_f cc)]
      exact ⟨_, no63 M 1 (by omega) (by omega)⟩
