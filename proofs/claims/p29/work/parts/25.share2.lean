section CH
variable {M : Mem} {q c b : Nat} {P : Pg} {ρ : Nat → Int}
def CP (M : Mem) (c : Nat) (P : Pg) (b : Nat) (ρ : Nat → Int) : Prop :=
  M (iCh c) 7 = mf (fun s => decide (hd P b s) && lf P b ρ (rN P b ρ) s) ∧ M (iCh c) 10 = pkm P b ρ ∧ ∀ k, k ≤ rN P b ρ → (M (iCh c + 7) k = iz (posP P b ρ 0 k) ∧ M (iCh c + 8) k = iz (posP P b ρ k (rN P b ρ))) ∧ M (iCh c + 10) k = iz (widP P b ρ 0 k) ∧ M (iCh c + 11) k = iz (widP P b ρ k (rN P b ρ))
theorem widP_rng (hr : CR M c P b ρ) (hP : PgW P) (hb : b < gB P) {i j : Nat} (hj : j ≤ rN P b ρ) : 0 ≤ widP P b ρ i j ∧ widP P b ρ i j ≤ 69 := by
  unfold widP pt
  by_cases e : i < j
  · rw [if_pos e]
    have a1 := sp_rng hP hb (rR P b ρ i)
    have a2 := sp_rng hP hb (rR P b ρ (j - 1))
    by_cases d : i = j - 1
    · rw [← d]; omega
    · have := hr.2.2.2.2.2 i (j - 1) (by omega) (by omega)
      omega
  · rw [if_neg e]; omega
theorem hdIn0 (k : Nat) (hP : PgD P) : (∀ s, s < 5 → (lf P b ρ k s && decide (hd P b s)) = false) = ¬ hdIn P b ρ 0 k := by
  have h4 := hP.1
  refine propext ⟨fun h ⟨m, hm, _, x⟩ => ?_, fun h s hs => ?_⟩
  · have := h (rR P b ρ m) (by have := x.1; omega)
    unfold lf at this
    rw [Bool.and_eq_false_iff] at this
    rcases this with z | z
    · exact (of_decide_eq_false z) ⟨m, hm, rfl⟩
    · exact (of_decide_eq_false z) x
  · rw [Bool.and_eq_false_iff]
    by_cases x : lfP (rR P b ρ) k s
    · obtain ⟨m, hm, e⟩ := x
      refine Or.inr (decide_eq_false fun y => h ⟨m, hm, by omega, ?_⟩)
      rw [e]; exact y
    · exact Or.inl (decide_eq_false x)
theorem hdIn1 (hr : IsRow (sp P b) (kp ρ) (rN P b ρ) (rR P b ρ)) (k : Nat) (hP : PgD P) : (∀ s, s < 5 → ((lf P b ρ (rN P b ρ) s && !lf P b ρ k s) && decide (hd P b s)) = false) = ¬ hdIn P b ρ k (rN P b ρ) := by
  have h4 := hP.1
  refine propext ⟨fun h ⟨m, hm, hk, x⟩ => ?_, fun h s hs => ?_⟩
  · have := h (rR P b ρ m) (by have := x.1; omega)
    unfold lf at this
    rw [Bool.and_eq_false_iff, Bool.and_eq_false_iff] at this
    rcases this with (z | z) | z
    · exact (of_decide_eq_false z) ⟨m, hm, rfl⟩
    · rw [Bool.not_eq_false'] at z
      obtain ⟨i, hi, e⟩ := of_decide_eq_true z
      have := hr.2.2 i m (by omega) hm
      rw [e] at this
      omega
    · exact (of_decide_eq_false z) x
  · rw [Bool.and_eq_false_iff, Bool.and_eq_false_iff]
    by_cases x : lfP (rR P b ρ) (rN P b ρ) s
    · obtain ⟨m, hm, e⟩ := x
      by_cases hk : k ≤ m
      · refine Or.inr (decide_eq_false fun y => h ⟨m, hm, hk, ?_⟩)
        rw [e]; exact y
      · refine Or.inl (Or.inr ?_)
        unfold lf
        rw [Bool.not_eq_false']
        exact decide_eq_true ⟨m, by omega, e⟩
    · exact Or.inl (Or.inl (decide_eq_false x))
theorem canPlay0 (h : CB M c P b ρ) (hr : CR M c P b ρ) (hP : PgW P) (hb : b < gB P) {k : Nat} (hk : k ≤ rN P b ρ) (hw : M (iCh c + 10) k = iz (widP P b ρ 0 k)) : f_X0_canPlay c 0 (iz k) M = some (bz (canP P b ρ 0 0 k), M) := by
  have n4 := row_n4 hr.2.2.2
  have w := widP_rng hr hP hb (i := 0) hk
  refine canPlay_core (hh := 0) h hP (by omega) (k := k) (i := 0) (j := k) (by omega) (by omega) (by omega) ?_ (lf P b ρ k) ?_ (hdIn0 k hP.1) hw (by omega)
  · unfold f_X0_countOf
    simp (disch := omega) only [iz_lit, iz_neg, iz_add, iz_sub, iz_mul, iz_lt, iz_le, iz_eq, iz_inb, iz_cl, bz_0, ob_some]
    rw [if_pos (by omega)]
    congr 2
  · unfold f_X0_stavesOf
    simp (disch := omega) only [iz_lit, iz_neg, iz_add, iz_sub, iz_mul, iz_lt, iz_le, iz_eq, iz_inb, iz_cl, bz_0, ob_some]
    rw [if_pos (by omega), if_pos (by omega), show (k : Int).toNat = k by omega, hr.2.2.1 k hk]
theorem stavesOf1 (hr : CR M c P b ρ) {k : Nat} (hk : k ≤ rN P b ρ) : f_X0_stavesOf c 1 (iz k) M = some (mf (fun s => lf P b ρ (rN P b ρ) s && !lf P b ρ k s), M) := by
  have n4 := row_n4 hr.2.2.2
  unfold f_X0_stavesOf
  rw [hr.1, cl_n (n := k) (by omega), cl_n (n := rN P b ρ) (by omega), hr.2.2.1 k hk, hr.2.2.1 (rN P b ρ) (by omega), mf_andn]
  simp (disch := omega) only [iz_lit, iz_neg, iz_add, iz_sub, iz_mul, iz_lt, iz_le, iz_eq, iz_inb, iz_cl, bz_0, ob_some]
  rw [if_neg (by omega), if_pos (by omega), if_pos (by omega)]
theorem canPlay1 (h : CB M c P b ρ) (hr : CR M c P b ρ) (hP : PgW P) (hb : b < gB P) {k : Nat} (hk : k ≤ rN P b ρ) (hw : M (iCh c + 11) k = iz (widP P b ρ k (rN P b ρ))) : f_X0_canPlay c 1 (iz k) M = some (bz (canP P b ρ 1 k (rN P b ρ)), M) := by
  have n4 := row_n4 hr.2.2.2
  have w := widP_rng hr hP hb (i := k) (j := rN P b ρ) (by omega)
  refine canPlay_core (hh := 1) h hP (by omega) (k := k) (i := k) (j := rN P b ρ) (by omega) hk (by omega) ?_ _ (stavesOf1 hr hk) (hdIn1 hr.2.2.2 k hP.1) hw (by omega)
  unfold f_X0_countOf
  rw [hr.1]
  simp (disch := omega) only [iz_lit, iz_neg, iz_add, iz_sub, iz_mul, iz_lt, iz_le, iz_eq, iz_inb, iz_cl, bz_0, ob_some]
  rw [if_neg (by omega)]
theorem share_tot (h : CB M c P b ρ) (hP : PgW P) (hb : b < gB P) (hr : ∀ s, ρ s = -9 ∨ (0 ≤ ρ s ∧ ρ s ≤ 3)) (h0 : M (iCh c + 5) 0 = iz 0) : Tot (f_X0_share c M) (fun x => CB x.2 c P b ρ ∧ CR x.2 c P b ρ ∧ CP x.2 c P b ρ ∧ x.2 (iCh c + 5) 0 = iz 0 ∧ Off (RCh c) M x.2) := by
  unfold f_X0_share
  rw [show (3 : Int32) = iz (((4 : Nat) : Int) - 1) from rfl]
  refine dn_tot (fun i M' => i ≤ 4 ∧ ∃ n r, CB M' c P b ρ ∧ M' (iCh c) 9 = iz (n : Nat) ∧ (∀ j, j < n → M' (iCh c + 4) j = iz (r j : Nat)) ∧ IsRow (sp P b) (fun t => i ≤ t ∧ ρ t = 0) n r ∧ n + i ≤ 4 ∧ M' (iCh c + 5) 0 = iz 0 ∧ Off (RCh c) M M') ?_ ?_ 9999 4 _ ⟨by omega, 0, fun _ => 0, h.put (by omega) (fun e => by omega), by rw [mw_at, if_pos rfl]; rfl, fun j hj => absurd hj (Nat.not_lt_zero j), row_nil (fun s hs t => by omega) _, by omega, by rw [mw_ne (by omega)]; exact h0, Off.rf.put ⟨by omega, by omega⟩⟩ (by omega)
  · intro k i M' ⟨hi4, n, r, hB, h9, hrow, hR, hn, h50, ho⟩ hk
    unfold f_X0_share_b7
    have hi := hr i
    simp (disch := omega) only [iz_lit, iz_neg, iz_add, iz_sub, iz_mul, iz_lt, iz_le, iz_eq, iz_inb, iz_cl, bz_0, ob_some]
    rw [if_neg (by omega), if_pos (by omega), show (i : Int).toNat = i by omega, hB.2.1 i (by omega), show (i : Int) + -1 = (i : Int) - 1 by omega]
    simp (disch := omega) only [iz_lit, iz_neg, iz_add, iz_sub, iz_mul, iz_lt, iz_le, iz_eq, iz_inb, iz_cl, bz_0, ob_some]
    by_cases e : ρ i = 0
    · rw [if_pos e]
      refine Tot.ob ((insert_tot hB hP hb h9 hrow hR (s := i) (by omega) (fun t ht => by omega) (by omega)).mono ?_)
      intro x ⟨r', hB', h9', hrow', hR', ho', ho9⟩
      refine hk _ ⟨by omega, n + 1, r', hB', h9', hrow', row_cong hR' (fun s hs => ?_) (fun _ _ => rfl), by omega, ?_, fun d hd => ?_⟩
      · refine ⟨fun z => ?_, fun z => ?_⟩
        · by_cases d : s = i
          · exact Or.inr d
          · exact Or.inl ⟨by omega, z.2⟩
        · rcases z with z | z
          · exact ⟨by omega, z.2⟩
          · rw [z]; exact ⟨by omega, e⟩
      · rw [ho' _ (by omega) (by omega)]; exact h50
      · have z := hd
        unfold RCh at z
        exact (ho' d (by omega) (by omega)).trans (ho d hd)
    · rw [if_neg e]
      refine hk _ ⟨by omega, n, r, hB, h9, hrow, row_cong hR (fun s hs => ?_) (fun _ _ => rfl), by omega, h50, ho⟩
      refine ⟨fun z => ?_, fun z => ⟨by omega, z.2⟩⟩
      by_cases d : s = i
      · rw [d] at z; exact absurd z.2 e
      · exact ⟨by omega, z.2⟩
  · intro k M' ⟨_, n, r, hB, h9, hrow, hR, hn, h50, ho⟩
    unfold f_X0_share_b7
    simp (disch := omega) only [iz_lit, iz_neg, iz_add, iz_sub, iz_mul, iz_lt, iz_le, iz_eq, iz_inb, iz_cl, bz_0, ob_some]
    rw [if_pos (by omega)]
    unfold f_X0_share_b31
    have hR' : IsRow (sp P b) (kp ρ) n r := row_cong hR (fun s hs => ⟨fun z => ⟨by omega, z⟩, fun z => z.2⟩) (fun _ _ => rfl)
    obtain ⟨hX, en, er⟩ := rwX_eq hR'
    have en : n = rN P b ρ := en
    have er : ∀ i, i < n → r i = rR P b ρ i := er
    have hX : IsRow (sp P b) (kp ρ) (rN P b ρ) (rR P b ρ) := hX
    subst en
    have n4 := row_n4 hX
    have hrow : ∀ j, j < rN P b ρ → M' (iCh c + 4) j = iz (rR P b ρ j : Nat) := fun j hj => (hrow j hj).trans (by rw [er j hj])
    have l0 : mf (lf P b ρ 0) = iz 0 := by
      rw [← mf_none]
      refine mf_cong fun s _ => ?_
      unfold lf
      exact decide_eq_false (fun ⟨m, hm, _⟩ => Nat.not_lt_zero m hm)
    rw [iz_lit]
    refine up_tot (rN P b ρ) (fun k M'' => CB M'' c P b ρ ∧ M'' (iCh c) 9 = iz (rN P b ρ) ∧ (∀ j, j < rN P b ρ → M'' (iCh c + 4) j = iz (rR P b ρ j : Nat)) ∧ (∀ j, j ≤ k → M'' (iCh c + 5) j = mf (lf P b ρ j)) ∧ Off (RCh c) M M'') ?_ ?_ 9999 0 M' (by omega) ⟨hB, h9, hrow, fun j hj => by rw [show j = 0 by omega, l0]; exact h50, ho⟩ (by omega)
    · intro k2 i M2 hi ⟨hB, h9, hrow, hl, ho⟩ hk2
      unfold f_X0_share_b33
      have hri := hX.1 i hi
      rw [h9, cl_n (n := i) (by omega), hl i (by omega), hrow i hi, mf_set _ (by omega)]
      simp (disch := omega) only [iz_lit, iz_neg, iz_add, iz_sub, iz_mul, iz_lt, iz_le, iz_eq, iz_inb, iz_cl, bz_0, ob_some]
      rw [if_neg (by omega), if_pos (by omega), if_pos (by omega), if_pos (by omega), show ((i : Int) + 1).toNat = i + 1 by omega]
      refine hk2 _ ⟨hB.put (by omega) (fun e => by omega), by rw [mw_ne (by omega)]; exact h9, fun j hj => by rw [mw_ne (by omega)]; exact hrow j hj, fun j hj => ?_, ho.put ⟨by omega, by omega⟩⟩
      rw [mw_at]
      by_cases e : j = i + 1
      · rw [if_pos e, e]
        refine mf_cong fun s _ => ?_
        unfold lf
        rw [Bool.eq_iff_iff]
        simp only [Bool.or_eq_true, decide_eq_true_eq]
        refine ⟨fun z => ?_, fun ⟨m, hm, e⟩ => ?_⟩
        · rcases z with ⟨m, hm, e⟩ | z
          · exact ⟨m, by omega, e⟩
          · exact ⟨i, by omega, z.symm⟩
        · by_cases d : m = i
          · rw [d] at e; exact Or.inr e.symm
          · exact Or.inl ⟨m, by omega, e⟩
      · rw [if_neg e]
        exact hl j (by omega)
    · intro k2 M2 ⟨hB, h9, hrow, hl, ho⟩
      unfold f_X0_share_b33
      have hCR : CR M2 c P b ρ := ⟨h9, hrow, hl, hX⟩
      have hkm : (mf fun s => decide (hd P b s)) &&& mf (lf P b ρ (rN P b ρ)) = mf (fun s => decide (hd P b s) && lf P b ρ (rN P b ρ) s) := mf_and _ _
      rw [h9]
      simp (disch := omega) only [iz_lit, iz_neg, iz_add, iz_sub, iz_mul, iz_lt, iz_le, iz_eq, iz_inb, iz_cl, bz_0, ob_some]
      rw [if_pos (by omega)]
      unfold f_X0_share_b70
      rw [h9, hB.2.2.2, cl_n (n := rN P b ρ) (by omega), hl (rN P b ρ) (by omega), hkm]
      simp (disch := omega) only [iz_lit, iz_neg, iz_add, iz_sub, iz_mul, iz_lt, iz_le, iz_eq, iz_inb, iz_cl, bz_0, ob_some]
      rw [if_pos (by omega)]
      refine up_tot (rN P b ρ + 1) (fun k M'' => CB M'' c P b ρ ∧ CR M'' c P b ρ ∧ M'' (iCh c) 7 = mf (fun s => decide (hd P b s) && lf P b ρ (rN P b ρ) s) ∧ M'' (iCh c) 10 = mf (fun j => decide (j < k ∧ pk P b ρ j)) ∧ (∀ j, j < k → (M'' (iCh c + 7) j = iz (posP P b ρ 0 j) ∧ M'' (iCh c + 8) j = iz (posP P b ρ j (rN P b ρ))) ∧ M'' (iCh c + 10) j = iz (widP P b ρ 0 j) ∧ M'' (iCh c + 11) j = iz (widP P b ρ j (rN P b ρ))) ∧ Off (RCh c) M M'') ?_ ?_ 9999 0 _ (by omega) ⟨(hB.put (by omega) (fun e => by omega)).put (by omega) (fun e => by omega), (hCR.put (by omega) (fun e => by omega)).put (by omega) (fun e => by omega), by rw [mw_at, if_neg (by omega), mw_at, if_pos rfl], ?_, fun j hj => absurd hj (Nat.not_lt_zero j), (ho.put ⟨by omega, by omega⟩).put ⟨by omega, by omega⟩⟩ (by omega)
      · intro k3 i M3 hi ⟨hB, hCR, h7, h10, hm, ho⟩ hk3
        unfold f_X0_share_b95
        rw [hCR.1]
        simp (disch := omega) only [iz_lit, iz_neg, iz_add, iz_sub, iz_mul, iz_lt, iz_le, iz_eq, iz_inb, iz_cl, bz_0, ob_some]
        rw [if_neg (by omega)]
        have e1 := measure_eq hB hCR hP hb (hh := 0) (k := i) (i := 0) (j := i) (by omega) (by omega) (by omega) (by omega)
        have e1 : f_X0_measure c (iz 0) (iz i) (iz 0) (iz i) M3 = some ((), mw (mw M3 (iCh c + 7) i (iz (posP P b ρ 0 i))) (iCh c + 10) i (iz (widP P b ρ 0 i))) := e1
        rw [e1, ob_some]
        have hB1 : CB (mw (mw M3 (iCh c + 7) i (iz (posP P b ρ 0 i))) (iCh c + 10) i (iz (widP P b ρ 0 i))) c P b ρ := (hB.put (by omega) (fun e => by omega)).put (by omega) (fun e => by omega)
        have hC1 : CR (mw (mw M3 (iCh c + 7) i (iz (posP P b ρ 0 i))) (iCh c + 10) i (iz (widP P b ρ 0 i))) c P b ρ := (hCR.put (by omega) (fun e => by omega)).put (by omega) (fun e => by omega)
        have e2 := measure_eq hB1 hC1 hP hb (hh := 1) (k := i) (i := i) (j := rN P b ρ) (by omega) (by omega) (by omega) (by omega)
        have e2 : f_X0_measure c (iz 1) (iz i) (iz i) (iz (rN P b ρ)) (mw (mw M3 (iCh c + 7) i (iz (posP P b ρ 0 i))) (iCh c + 10) i (iz (widP P b ρ 0 i))) = some ((), mw (mw (mw (mw M3 (iCh c + 7) i (iz (posP P b ρ 0 i))) (iCh c + 10) i (iz (widP P b ρ 0 i))) (iCh c + 8) i (iz (posP P b ρ i (rN P b ρ)))) (iCh c + 11) i (iz (widP P b ρ i (rN P b ρ)))) := e2
        rw [hC1.1, e2, ob_some]
        have hB2 := (hB1.put (d := iCh c + 8) (j := i) (v := iz (posP P b ρ i (rN P b ρ))) (by omega) (fun e => by omega)).put (d := iCh c + 11) (j := i) (v := iz (widP P b ρ i (rN P b ρ))) (by omega) (fun e => by omega)
        have hC2 := (hC1.put (d := iCh c + 8) (j := i) (v := iz (posP P b ρ i (rN P b ρ))) (by omega) (fun e => by omega)).put (d := iCh c + 11) (j := i) (v := iz (widP P b ρ i (rN P b ρ))) (by omega) (fun e => by omega)
        have ho2 := (((ho.put (c := iCh c + 7) (i := i) (v := iz (posP P b ρ 0 i)) ⟨by omega, by omega⟩).put (c := iCh c + 10) (i := i) (v := iz (widP P b ρ 0 i)) ⟨by omega, by omega⟩).put (c := iCh c + 8) (i := i) (v := iz (posP P b ρ i (rN P b ρ))) ⟨by omega, by omega⟩).put (c := iCh c + 11) (i := i) (v := iz (widP P b ρ i (rN P b ρ))) ⟨by omega, by omega⟩
        generalize hM4 : mw (mw (mw (mw M3 (iCh c + 7) i (iz (posP P b ρ 0 i))) (iCh c + 10) i (iz (widP P b ρ 0 i))) (iCh c + 8) i (iz (posP P b ρ i (rN P b ρ)))) (iCh c + 11) i (iz (widP P b ρ i (rN P b ρ))) = M4 at hB2 hC2 ho2 ⊢
        have hm4 : ∀ j, j < i + 1 → (M4 (iCh c + 7) j = iz (posP P b ρ 0 j) ∧ M4 (iCh c + 8) j = iz (posP P b ρ j (rN P b ρ))) ∧ M4 (iCh c + 10) j = iz (widP P b ρ 0 j) ∧ M4 (iCh c + 11) j = iz (widP P b ρ j (rN P b ρ)) := fun j hj => by
          rw [← hM4]
          refine ⟨⟨?_, ?_⟩, ?_, ?_⟩
          · rw [mw_ne (by omega), mw_ne (by omega), mw_ne (by omega), mw_at]
            by_cases e : j = i
            · rw [if_pos e, e]
            · rw [if_neg e]; exact (hm j (by omega)).1.1
          · rw [mw_ne (by omega), mw_at]
            by_cases e : j = i
            · rw [if_pos e, e]
            · rw [if_neg e, mw_ne (by omega), mw_ne (by omega)]; exact (hm j (by omega)).1.2
          · rw [mw_ne (by omega), mw_ne (by omega), mw_at]
            by_cases e : j = i
            · rw [if_pos e, e]
            · rw [if_neg e, mw_ne (by omega)]; exact (hm j (by omega)).2.1
          · rw [mw_at]
            by_cases e : j = i
            · rw [if_pos e, e]
            · rw [if_neg e, mw_ne (by omega), mw_ne (by omega), mw_ne (by omega)]; exact (hm j (by omega)).2.2
        have h74 : M4 (iCh c) 7 = mf (fun s => decide (hd P b s) && lf P b ρ (rN P b ρ) s) := by
          rw [← hM4, mw_ne (by omega), mw_ne (by omega), mw_ne (by omega), mw_ne (by omega)]; exact h7
        have h104 : M4 (iCh c) 10 = mf (fun j => decide (j < i ∧ pk P b ρ j)) := by
          rw [← hM4, mw_ne (by omega), mw_ne (by omega), mw_ne (by omega), mw_ne (by omega)]; exact h10
        have p0 : f_X0_canPlay c (iz 0) (iz i) M4 = some (bz (canP P b ρ 0 0 i), M4) := canPlay0 hB2 hC2 hP hb (k := i) (by omega) (hm4 i (by omega)).2.1
        have p1 : f_X0_canPlay c (iz 1) (iz i) M4 = some (bz (canP P b ρ 1 i (rN P b ρ)), M4) := canPlay1 hB2 hC2 hP hb (k := i) (by omega) (hm4 i (by omega)).2.2
        rw [p0, ob_some, p1, ob_some]
        simp (disch := omega) only [iz_lit, iz_neg, iz_add, iz_sub, iz_mul, iz_lt, iz_le, iz_eq, iz_inb, iz_cl, bz_0, ob_some]
        have no : ¬ pk P b ρ i → Tot (k3 (iz ((i : Int) + 1)) M4) (fun x => CB x.2 c P b ρ ∧ CR x.2 c P b ρ ∧ CP x.2 c P b ρ ∧ x.2 (iCh c + 5) 0 = iz 0 ∧ Off (RCh c) M x.2) := fun np => by
          refine hk3 _ ⟨hB2, hC2, h74, ?_, hm4, ho2⟩
          rw [h104]
          refine mf_cong fun j _ => ?_
          rw [Bool.eq_iff_iff]
          simp only [decide_eq_true_eq]
          refine ⟨fun z => ⟨by omega, z.2⟩, fun z => ⟨?_, z.2⟩⟩
          by_cases d : j = i
          · rw [d] at z; exact absurd z.2 np
          · omega
        by_cases c0 : canP P b ρ 0 0 i
        · rw [if_neg (fun z => z c0)]
          by_cases c1 : canP P b ρ 1 i (rN P b ρ)
          · rw [if_neg (fun z => z c1), h104]
            rw [show iz 1 <<< (iz (i : Int) &&& iz 31) = (1 : Int32) <<< (iz (i : Int) &&& 31) from rfl, mf_set _ (by omega)]
            refine hk3 _ ⟨hB2.put (by omega) (fun e => by omega), hC2.put (by omega) (fun e => by omega), by rw [mw_at, if_neg (by omega)]; exact h74, ?_, fun j hj => by rw [mw_ne (by omega), mw_ne (by omega), mw_ne (by omega), mw_ne (by omega)]; exact hm4 j hj, ho2.put ⟨by omega, by omega⟩⟩
            rw [mw_at, if_pos rfl]
            refine mf_cong fun j _ => ?_
            rw [Bool.eq_iff_iff]
            simp only [decide_eq_true_eq, Bool.or_eq_true]
            refine ⟨fun z => ?_, fun z => ?_⟩
            · rcases z with z | z
              · exact ⟨by omega, z.2⟩
              · rw [z]; exact ⟨by omega, by omega, c0, c1⟩
            · by_cases d : j = i
              · exact Or.inr d
              · exact Or.inl ⟨by omega, z.2⟩
          · rw [if_pos c1]
            exact no (fun z => c1 z.2.2)
        · rw [if_pos c0]
          exact no (fun z => c0 z.2.1)
      · intro k3 M3 ⟨hB, hCR, h7, h10, hm, ho⟩
        unfold f_X0_share_b95
        rw [hCR.1]
        simp (disch := omega) only [iz_lit, iz_neg, iz_add, iz_sub, iz_mul, iz_lt, iz_le, iz_eq, iz_inb, iz_cl, bz_0, ob_some]
        rw [if_pos (by omega)]
        refine Tot.mk ⟨hB, hCR, ⟨h7, h10.trans (mf_cong fun j _ => ?_), fun k hk => hm k (by omega)⟩, ?_, ho⟩
        · rw [Bool.eq_iff_iff]
          simp only [decide_eq_true_eq]
          exact ⟨fun z => z.2, fun z => ⟨by have := z.1; omega, z⟩⟩
        · have := hCR.2.2.1 0 (by omega)
          rw [l0] at this
          exact this
      · rw [mw_at, if_pos rfl, ← mf_none]
        refine mf_cong fun j _ => ?_
        exact (decide_eq_false (fun z => Nat.not_lt_zero j z.1)).symm
end CH
