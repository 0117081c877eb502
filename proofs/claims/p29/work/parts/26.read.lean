theorem CB.cong {M : Mem} {c b : Nat} {P : Pg} {ρ ρ' : Nat → Int} (h : CB M c P b ρ) (e : ∀ s, s < 4 → ρ' s = ρ s) : CB M c P b ρ' :=
  ⟨h.1, fun s hs => by rw [e s hs]; exact h.2.1 s hs, h.2.2⟩
theorem CB.setR {M : Mem} {c b : Nat} {P : Pg} {ρ ρ' : Nat → Int} (h : CB M c P b ρ) {i : Nat} {v : Int} (e : ∀ s, s < 4 → ρ' s = if s = i then v else ρ s) : CB (mw M (iCh c + 3) i (iz v)) c P b ρ' := by
  obtain ⟨a, r, f, g⟩ := h
  refine ⟨fun s hs => by rw [mw_ne (by omega)]; exact a s hs, fun s hs => ?_, f.put (by omega) (fun e => by omega), by rw [mw_ne (by omega)]; exact g⟩
  rw [mw_at, e s hs]
  by_cases d : s = i
  · rw [if_pos d, if_pos d]
  · rw [if_neg d, if_neg d]; exact r s hs
theorem rho_of {P : Pg} {b t : Nat} (h1 : 1 ≤ t) (h3 : t ≤ 3) (hz : ∀ t', t < t' → t' ≤ 3 → pkm P b (drp P b t') = 0 ∨ drp P b t' = drp P b t) (hl : pkm P b (drp P b t) ≠ 0 ∨ t = 1) : drp P b t = rho P b := by
  unfold rho tF
  rcases (show t = 1 ∨ t = 2 ∨ t = 3 by omega) with rfl | rfl | rfl
  · by_cases c3 : pkm P b (drp P b 3) ≠ 0
    · rw [if_pos c3]
      rcases hz 3 (by omega) (by omega) with z | z
      · exact absurd z c3
      · exact z.symm
    · rw [if_neg c3]
      by_cases c2 : pkm P b (drp P b 2) ≠ 0
      · rw [if_pos c2]
        rcases hz 2 (by omega) (by omega) with z | z
        · exact absurd z c2
        · exact z.symm
      · rw [if_neg c2]
  · by_cases c3 : pkm P b (drp P b 3) ≠ 0
    · rw [if_pos c3]
      rcases hz 3 (by omega) (by omega) with z | z
      · exact absurd z c3
      · exact z.symm
    · rw [if_neg c3]
      rcases hl with z | z
      · rw [if_pos z]
      · omega
  · rcases hl with z | z
    · rw [if_pos z]
    · omega
/-- what the kept ones are at last -/
theorem kept_ends {P : Pg} {b s : Nat} (h : drp P b 1 s = 0) : s = 0 ∨ s + 1 = gS P := by
  unfold drp at h
  have hn := rs1_none P b 4 s
  by_cases c : s < gS P
  · by_cases d : s = 0
    · exact Or.inl d
    · by_cases e : s + 1 < gS P
      · split at h
        · omega
        · rename_i z; exact absurd ⟨by omega, by omega, e, h⟩ z
      · right; omega
  · have e : sp P b s = -9 := by unfold sp; rw [if_neg c]
    have e2 := hn.mpr e
    rw [if_neg (by omega), e2] at h
    omega
theorem poss_ne {P : Pg} (hP : PgE P) {b : Nat} (hR : IsRow (sp P b) (kp (rho P b)) (rN P b (rho P b)) (rR P b (rho P b))) : pkm P b (rho P b) ≠ 0 := by
  by_cases c3 : pkm P b (drp P b 3) ≠ 0
  · have : rho P b = drp P b 3 := by unfold rho tF; rw [if_pos c3]
    rw [this]; exact c3
  · by_cases c2 : pkm P b (drp P b 2) ≠ 0
    · have : rho P b = drp P b 2 := by unfold rho tF; rw [if_neg c3, if_pos c2]
      rw [this]; exact c2
    · have e1 : rho P b = drp P b 1 := by unfold rho tF; rw [if_neg c3, if_neg c2]
      have e2 := hP.2.2.1
      have e0 := PgE_rng hP (j := 0) (by omega)
      have e0' := PgE_rng hP (j := 1) (by omega)
      have e3 := PgE_rng hP (j := 3) (by omega)
      have hn : rN P b (rho P b) ≤ 2 := by
        refine Nat.le_of_not_lt fun c => ?_
        have k : ∀ i, i < 3 → rR P b (rho P b) i = 0 ∨ rR P b (rho P b) i + 1 = gS P := fun i hi => by
          have := (hR.1 i (by omega)).2
          refine kept_ends (b := b) ?_
          have t : rho P b (rR P b (rho P b) i) = 0 := this
          rw [← e1]; exact t
        have l1 := hR.2.2 0 1 (by omega) (by omega)
        have l2 := hR.2.2 1 2 (by omega) (by omega)
        have l3 := hR.2.2 0 2 (by omega) (by omega)
        have n1 : rR P b (rho P b) 0 ≠ rR P b (rho P b) 1 := fun e => by rw [e] at l1; omega
        have n2 : rR P b (rho P b) 1 ≠ rR P b (rho P b) 2 := fun e => by rw [e] at l2; omega
        have n3 : rR P b (rho P b) 0 ≠ rR P b (rho P b) 2 := fun e => by rw [e] at l3; omega
        have k0 := k 0 (by omega)
        have k1 := k 1 (by omega)
        have k2 := k 2 (by omega)
        omega
      have w : ∀ i j, j ≤ i + 1 → widP P b (rho P b) i j = 0 := fun i j hj => by
        unfold widP
        split
        · rw [show j - 1 = i by omega, Int.sub_self]
        · rfl
      have cp : ∀ h i j, h < 2 → i ≤ j → j ≤ i + 1 → canP P b (rho P b) h i j := fun h i j hh hij hj => by
        refine ⟨by omega, ?_⟩
        rw [w i j hj]
        have := PgE_rng hP (j := h) (by omega)
        split <;> omega
      intro hz
      have hz : mf (fun k => decide (pk P b (rho P b) k)) = 0 := hz
      have hz := (mf_zero _).mp hz
      by_cases d : rN P b (rho P b) ≤ 1
      · exact (of_decide_eq_false (hz 0 (by omega))) ⟨by omega, cp 0 0 0 (by omega) (by omega) (by omega), cp 1 0 _ (by omega) (by omega) (by omega)⟩
      · exact (of_decide_eq_false (hz 1 (by omega))) ⟨by omega, cp 0 0 1 (by omega) (by omega) (by omega), cp 1 1 _ (by omega) (by omega) (by omega)⟩
section CH
variable {M : Mem} {q c b : Nat} {P : Pg} {ρ : Nat → Int}
/-- a chord that has been read -/
def CF (M : Mem) (c : Nat) (P : Pg) (b : Nat) : Prop := CB M c P b (rho P b) ∧ CR M c P b (rho P b) ∧ CP M c P b (rho P b)
theorem read_tot (h : StRep M q P) (hP : PgW P) (hb : b < gB P) (h0 : M (iCh c + 5) 0 = iz 0) (hc : ∀ d, RCh c d → ¬ RSt q d) : Tot (f_X0_read c q (iz b) M) (fun x => CF x.2 c P b ∧ x.2 (iCh c + 5) 0 = iz 0 ∧ Off (RCh c) M x.2) := by
  unfold f_X0_read
  have h1 := hP.1.1
  have up : ∀ {A B : Mem}, Off (RCa c) A B → Off (RCh c) A B := fun o => o.wk (fun d hd => ⟨hd.1, by have := hd.2; omega⟩)
  have stt : ∀ {B : Mem}, Off (RCh c) M B → StRep B q P := fun o => h.off o (fun d hd hc' => hc d hc' hd)
  refine Tot.ob ((readSettings_tot h hP.2.1 hc).mono ?_)
  intro ⟨_, M1⟩ ⟨hE1, o1⟩
  have z1 : M1 (iCh c + 5) 0 = iz 0 := (congrFun (o1 (iCh c + 5) (fun z => by have := z.2; omega)) 0).trans h0
  have o1 := up o1
  refine Tot.ob ((readNotes_tot (stt o1) hP hb hE1 hc).mono ?_)
  intro ⟨_, M2⟩ ⟨hB2, o2⟩
  have z2 : M2 (iCh c + 5) 0 = iz 0 := (congrFun (o2 (iCh c + 5) (fun z => by have := z.2; omega)) 0).trans z1
  have o2 := o1.tr (up o2)
  show Tot (lq1 (f_X0_read_b21 c (M2 (iSt q) 2 - 1)) 9999 1 M2) _
  have hS2 : M2 (iSt q) 2 = iz (gS P) := (stt o2).1
  rw [hS2, iz_lit, iz_sub, show iz (OfNat.ofNat 1 : Int) = iz ((1 : Nat) : Int) from rfl]
  have r1 : rs1 P b 1 = r0 P b := by
    funext s
    show (if s = 0 ∧ 1 ≤ 0 ∧ 0 + 1 < gS P ∧ rs1 P b 0 s = 0 then rOf P b (rs1 P b 0) s else rs1 P b 0 s) = _
    rw [if_neg (by omega)]
    rfl
  have hT : ∃ t0, t0 ≤ 3 ∧ ((gS P ≤ 2 ∧ t0 = 1) ∨ (2 < gS P ∧ t0 + 1 = gS P)) := by
    by_cases e : gS P ≤ 2
    · exact ⟨1, by omega, Or.inl ⟨e, rfl⟩⟩
    · exact ⟨gS P - 1, by omega, Or.inr ⟨by omega, by omega⟩⟩
  obtain ⟨t0, ht3, ht⟩ := hT
  refine up_tot t0 (fun n M' => 1 ≤ n ∧ CB M' c P b (rs1 P b n) ∧ M' (iCh c + 5) 0 = iz 0 ∧ Off (RCh c) M M') ?_ ?_ 9999 1 M2 (by omega) ⟨by omega, by rw [r1]; exact hB2, z2, o2⟩ (by omega)
  · intro k i M' hi ⟨hi1, hB, hz, ho⟩ hk
    unfold f_X0_read_b21
    have hr := rs1_rng P b i i
    simp (disch := omega) only [iz_lit, iz_neg, iz_add, iz_sub, iz_mul, iz_lt, iz_le, iz_eq, iz_inb, iz_cl, bz_0, ob_some]
    rw [if_neg (by omega), if_pos (by omega), show (i : Int).toNat = i by omega, hB.2.1 i (by omega)]
    simp (disch := omega) only [iz_lit, iz_neg, iz_add, iz_sub, iz_mul, iz_lt, iz_le, iz_eq, iz_inb, iz_cl, bz_0, ob_some]
    have step : ∀ s, s ≠ i → rs1 P b (i + 1) s = rs1 P b i s := fun s hs => by
      show (if s = i ∧ 1 ≤ i ∧ i + 1 < gS P ∧ rs1 P b i s = 0 then rOf P b (rs1 P b i) s else rs1 P b i s) = _
      rw [if_neg (fun z => hs z.1)]
    by_cases c0 : rs1 P b i i = 0
    · rw [if_pos c0, show (gS P : Int) - 1 = ((gS P - 1 : Nat) : Int) by omega, reasonFor_eq hB hP hb (fun s => by have := rs1_rng P b i s; omega) (i := i) (by omega), ob_some, if_pos (by omega)]
      refine hk _ ⟨by omega, hB.setR (fun s hs => ?_), by rw [mw_ne (by omega)]; exact hz, ho.put ⟨by omega, by omega⟩⟩
      by_cases d : s = i
      · rw [if_pos d, d]
        show (if i = i ∧ 1 ≤ i ∧ i + 1 < gS P ∧ rs1 P b i i = 0 then rOf P b (rs1 P b i) i else rs1 P b i i) = _
        rw [if_pos ⟨rfl, hi1, by omega, c0⟩]
      · rw [if_neg d]; exact step s d
    · rw [if_neg c0]
      refine hk _ ⟨by omega, hB.cong (fun s hs => ?_), hz, ho⟩
      by_cases d : s = i
      · rw [d]
        show (if i = i ∧ 1 ≤ i ∧ i + 1 < gS P ∧ rs1 P b i i = 0 then rOf P b (rs1 P b i) i else rs1 P b i i) = _
        rw [if_neg (fun z => c0 z.2.2.2)]
      · exact step s d
  · intro k M3 ⟨_, hB, hz, ho⟩
    unfold f_X0_read_b21
    simp (disch := omega) only [iz_lit, iz_neg, iz_add, iz_sub, iz_mul, iz_lt, iz_le, iz_eq, iz_inb, iz_cl, bz_0, ob_some]
    rw [if_pos (by omega)]
    unfold f_X0_read_b57
    rw [rs1_top4 P b (by omega) (n := t0) (by omega) (by omega), ← drp_top P b (t := t0) (by omega)] at hB
    refine Tot.ob ((share_tot hB hP hb (fun s => drp_rng P b t0 s) hz).mono ?_)
    intro ⟨_, M4⟩ ⟨hB4, hR4, hP4, z4, o4⟩
    have o4 := ho.tr o4
    show Tot (lq1 (f_X0_read_b66 c) 9999 (iz ((gS P : Int) - 1) - 1) M4) _
    rw [iz_lit, iz_sub]
    have fin : ∀ (a : Nat) (M' : Mem), a ≤ 2 → CB M' c P b (drp P b (a + 1)) → CR M' c P b (drp P b (a + 1)) → CP M' c P b (drp P b (a + 1)) → M' (iCh c + 5) 0 = iz 0 → Off (RCh c) M M' → (∀ t', a + 1 < t' → t' ≤ 3 → pkm P b (drp P b t') = 0 ∨ drp P b t' = drp P b (a + 1)) → (pkm P b (drp P b (a + 1)) ≠ 0 ∨ a + 1 = 1) → Tot (some ((), M')) (fun x => CF x.2 c P b ∧ x.2 (iCh c + 5) 0 = iz 0 ∧ Off (RCh c) M x.2) := fun a M' ha x1 x2 x3 x4 x5 x6 x7 => by
      have e := rho_of (by omega) (by omega) x6 x7
      rw [e] at x1 x2 x3
      exact Tot.mk ⟨⟨x1, x2, x3⟩, x4, x5⟩
    by_cases hS1 : gS P = 1
    · obtain ⟨N, hN⟩ : ∃ N, 9999 = N + 1 := ⟨9998, rfl⟩
      rw [hN, lq1_s]
      generalize lq1 (f_X0_read_b66 c) N = K
      unfold f_X0_read_b66
      simp (disch := omega) only [iz_lit, iz_neg, iz_add, iz_sub, iz_mul, iz_lt, iz_le, iz_eq, iz_inb, iz_cl, bz_0, ob_some]
      rw [if_pos (by omega)]
      have et : t0 = 1 := by omega
      rw [et] at hB4 hR4 hP4
      exact fin 0 M4 (by omega) hB4 hR4 hP4 z4 o4 (fun t' h1 h2 => Or.inr (by rw [drp_top P b (by omega), drp_top P b (by omega)])) (Or.inr rfl)
    · rw [show (gS P : Int) - 1 - 1 = ((gS P - 2 : Nat) : Int) by omega]
      have et : drp P b t0 = drp P b (gS P - 2 + 1) := by rw [drp_top P b (by omega), drp_top P b (by omega)]
      rw [et] at hB4 hR4 hP4
      refine dnx_tot (fun a M' => a + 2 ≤ gS P ∧ CB M' c P b (drp P b (a + 1)) ∧ CR M' c P b (drp P b (a + 1)) ∧ CP M' c P b (drp P b (a + 1)) ∧ M' (iCh c + 5) 0 = iz 0 ∧ Off (RCh c) M M' ∧ (∀ t', a + 1 < t' → t' ≤ 3 → pkm P b (drp P b t') = 0 ∨ drp P b t' = drp P b (a + 1))) ?_ 9999 (gS P - 2) M4 ⟨by omega, hB4, hR4, hP4, z4, o4, fun t' h1 h2 => Or.inr (by rw [drp_top P b (by omega), drp_top P b (by omega)])⟩ (by omega)
      intro k a M' ⟨ha, x1, x2, x3, x4, x5, x6⟩ hk
      unfold f_X0_read_b66
      have hr := drp_rng P b (a + 1) a
      simp (disch := omega) only [iz_lit, iz_neg, iz_add, iz_sub, iz_mul, iz_lt, iz_le, iz_eq, iz_inb, iz_cl, bz_0, ob_some]
      by_cases ha0 : a = 0
      · rw [if_pos (by omega)]
        exact fin a M' (by omega) x1 x2 x3 x4 x5 x6 (Or.inr (by omega))
      · rw [if_neg (by omega), x3.2.1]
        by_cases hz : pkm P b (drp P b (a + 1)) = iz 0
        · have hz0 : pkm P b (drp P b (a + 1)) = 0 := hz
          rw [if_pos hz, if_pos (by omega), show (a : Int).toNat = a by omega, x1.2.1 a (by omega)]
          simp (disch := omega) only [iz_lit, iz_neg, iz_add, iz_sub, iz_mul, iz_lt, iz_le, iz_eq, iz_inb, iz_cl, bz_0, ob_some]
          have back : ∀ t', a - 1 + 1 < t' → t' ≤ 3 → pkm P b (drp P b t') = 0 := fun t' h1 h2 => by
            by_cases e : t' = a + 1
            · rw [e]; exact hz0
            · rcases x6 t' (by omega) h2 with z | z
              · exact z
              · rw [z]; exact hz0
          have e1 : a - 1 + 1 = a := by omega
          have e2 : (a : Int) + -1 = ((a - 1 : Nat) : Int) := by omega
          have dd : ∀ s, drp P b a s = if 1 ≤ s ∧ a ≤ s ∧ s + 1 < gS P ∧ rs1 P b 4 s = 0 then 3 else rs1 P b 4 s := fun _ => rfl
          have dd1 : ∀ s, drp P b (a + 1) s = if 1 ≤ s ∧ a + 1 ≤ s ∧ s + 1 < gS P ∧ rs1 P b 4 s = 0 then 3 else rs1 P b 4 s := fun _ => rfl
          have da : drp P b (a + 1) a = rs1 P b 4 a := by rw [dd1, if_neg (by omega)]
          by_cases c0 : drp P b (a + 1) a = 0
          · rw [if_pos c0, if_pos (by omega)]
            have hB5 : CB (mw M' (iCh c + 3) a (iz 3)) c P b (drp P b a) := x1.setR (fun s hs => by
              rw [dd s]
              by_cases d : s = a
              · rw [if_pos d, d, if_pos ⟨by omega, by omega, by omega, by rw [← da]; exact c0⟩]
              · rw [if_neg d, dd1 s]
                by_cases z : 1 ≤ s ∧ a ≤ s ∧ s + 1 < gS P ∧ rs1 P b 4 s = 0
                · rw [if_pos z, if_pos ⟨z.1, by omega, z.2.2⟩]
                · rw [if_neg z, if_neg (fun y => z ⟨y.1, by omega, y.2.2⟩)])
            refine Tot.ob ((share_tot hB5 hP hb (fun s => drp_rng P b a s) (by rw [mw_ne (by omega)]; exact x4)).mono ?_)
            intro ⟨_, M6⟩ ⟨hB6, hR6, hP6, z6, o6⟩
            show Tot (k (iz ((a : Int) + -1)) M6) _
            rw [e2]
            refine hk _ (by omega) ⟨by omega, by rw [e1]; exact hB6, by rw [e1]; exact hR6, by rw [e1]; exact hP6, z6, (x5.put ⟨by omega, by omega⟩).tr o6, fun t' h1 h2 => Or.inl (back t' h1 h2)⟩
          · rw [if_neg c0, e2]
            have ed : drp P b a = drp P b (a + 1) := by
              funext s
              rw [dd s, dd1 s]
              by_cases d : s = a
              · rw [d, if_neg (fun z => c0 (by rw [da]; exact z.2.2.2)), if_neg (by omega)]
              · by_cases z : 1 ≤ s ∧ a ≤ s ∧ s + 1 < gS P ∧ rs1 P b 4 s = 0
                · rw [if_pos z, if_pos ⟨z.1, by omega, z.2.2⟩]
                · rw [if_neg z, if_neg (fun y => z ⟨y.1, by omega, y.2.2⟩)]
            refine hk _ (by omega) ⟨by omega, by rw [e1, ed]; exact x1, by rw [e1, ed]; exact x2, by rw [e1, ed]; exact x3, x4, x5, fun t' h1 h2 => Or.inl (back t' h1 h2)⟩
        · rw [if_neg hz]
          exact fin a M' (by omega) x1 x2 x3 x4 x5 x6 (Or.inl hz)
end CH
