theorem nro_rng2 (P : Pg) (b k : Nat) : 0 ≤ nro P b k ∧ nro P b k ≤ 2 := nro_rng P b k
theorem shW_rng {P : Pg} (hP : PgOk P) {b : Nat} (hb : b < gB P) {w : Nat} (hw : w < 8) : 0 ≤ shW P b w ∧ shW P b w ≤ 200 := by
  have c1 := co_rng hP.1 hb (bef P b) (sq P b)
  have c2 := nf_rng (cutH P b)
  have c3 := nro_rng P b (sq P b)
  have c4 := mv_rng hP.1 hb (bef P b) 0 (sq P b)
  have c5 := mv_rng hP.1 hb (bef P b) 1 (sq P b)
  have c6 := nn_4 hP hb
  have c7 := nf_rng (fun s => (decide (hd P b s) && lb P b (nn P b) s) && !cutH P b s)
  have c8 : nf (fun s => (decide (hd P b s) && lb P b (nn P b) s) && !cutH P b s) ≤ nn P b := by
    have e := nf_lb hP hb (Nat.le_refl (nn P b))
    have z4 : lb P b (nn P b) 4 = false := lf_4 (row_ok hP hb) (Nat.le_refl _) (by omega)
    rw [← e, nf_cn _ z4, nf_cn _ (by show ((decide (hd P b 4) && lb P b (nn P b) 4) && !cutH P b 4) = false; rw [z4, Bool.and_false]; rfl)]
    refine sg_le2 (fun i _ => b01_le (fun h => ?_))
    have h : ((decide (hd P b i) && lb P b (nn P b) i) && !cutH P b i) = true := h
    rw [Bool.and_eq_true, Bool.and_eq_true] at h
    exact h.1.2
  have c9 : 0 ≤ cntR P b w 4 ∧ cntR P b w 4 ≤ 4 := by
    have := sg01 (f := fun s => if rho P b s = w then 1 else 0) (n := 4) (fun i => by by_cases h : rho P b i = w <;> simp [h])
    exact this
  unfold shW
  repeat' split
  all_goals omega
theorem nWhole_rng {P : Pg} (hP : PgOk P) {w : Nat} (hw : w < 8) : 0 ≤ nWhole P w ∧ nWhole P w ≤ 3200 := by
  have h2 := hP.1.1.2
  have h := sg_le (f := fun b => shW P b w) (a := 0) (b := 200) (n := gB P) (fun i hi => shW_rng hP hi hw)
  unfold nWhole
  omega
theorem lb_iff {P : Pg} (hP : PgOk P) {b s : Nat} (hb : b < gB P) : lb P b (nn P b) s = true ↔ (s < 4 ∧ rho P b s = 0) := by
  have hR := row_ok hP hb
  constructor
  · intro h
    obtain ⟨i, hi, e⟩ := of_decide_eq_true h
    have := hR.1 i hi
    rw [e] at this
    exact this
  · intro ⟨h1, h2⟩
    obtain ⟨i, hi, e⟩ := hR.2.1 s h1 h2
    exact decide_eq_true ⟨i, hi, e⟩
theorem note_1 (P : Pg) (s b : Nat) : nNote P s b 1 = rho P b s := by
  unfold nNote
  rw [if_pos (Or.inr rfl)]
theorem note_0 (P : Pg) (s b : Nat) : nNote P s b 0 = if rho P b s = 0 then (if lb P b (sq P b) s = true then 0 else 1) else -9 := by
  unfold nNote
  by_cases c : rho P b s = -9
  · rw [if_pos (Or.inl c), if_neg (by omega), c]
  · rw [if_neg (by omega), if_neg (by omega)]
    by_cases d : rho P b s = 0
    · rw [if_neg (fun z => z d), if_pos d, if_neg (by omega)]
    · rw [if_pos d, if_neg d]
theorem note0_c (P : Pg) (s b : Nat) : nNote P s b 0 = -9 ∨ nNote P s b 0 = 0 ∨ nNote P s b 0 = 1 := by
  rw [note_0]
  repeat' split
  all_goals omega
theorem note1_c (P : Pg) (s b : Nat) : nNote P s b 1 = -9 ∨ (0 ≤ nNote P s b 1 ∧ nNote P s b 1 ≤ 3) := by
  rw [note_1]
  exact rho_cases b s
