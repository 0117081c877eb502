def bz (c : Prop) [Decidable c] : Int32 := if c then iz 1 else iz 0
theorem bz_0 (c : Prop) [Decidable c] : (bz c = iz 0) = ¬ c := by
  unfold bz; by_cases h : c <;> simp [h] <;> decide
theorem bz_1 (c : Prop) [Decidable c] : (bz c = iz 1) = c := by
  unfold bz; by_cases h : c <;> simp [h] <;> decide
theorem bz_t {c : Prop} [Decidable c] (h : c) : bz c = iz 1 := by unfold bz; rw [if_pos h]
theorem bz_f {c : Prop} [Decidable c] (h : ¬ c) : bz c = iz 0 := by unfold bz; rw [if_neg h]
/-! THE MUSIC: settings, staves, beats, cells -/
abbrev Pg : Type := (Nat → Int) × Nat × Nat × (Nat → Nat → Int)
abbrev gE (P : Pg) : Nat → Int := P.1
abbrev gS (P : Pg) : Nat := P.2.1
abbrev gB (P : Pg) : Nat := P.2.2.1
abbrev gC (P : Pg) : Nat → Nat → Int := P.2.2.2
def PgE (P : Pg) : Prop := (1 ≤ gE P 0 ∧ gE P 0 ≤ 24) ∧ (1 ≤ gE P 1 ∧ gE P 1 ≤ 24) ∧ (1 ≤ gE P 2 ∧ gE P 2 ≤ 5) ∧ (0 ≤ gE P 3 ∧ gE P 3 ≤ 9) ∧ (0 ≤ gE P 4 ∧ gE P 4 ≤ 1) ∧ (0 ≤ gE P 5 ∧ gE P 5 ≤ 1)
def cOk (c : Int) : Prop := c = -9 ∨ c = 99 ∨ (0 ≤ c ∧ c ≤ 60)
def PgD (P : Pg) : Prop := (1 ≤ gS P ∧ gS P ≤ 4) ∧ (1 ≤ gB P ∧ gB P ≤ 16)
def PgW (P : Pg) : Prop := PgD P ∧ PgE P ∧ ∀ s b, s < gS P → b < gB P → cOk (gC P s b)
def PgH (P : Pg) : Prop := ∀ s b, s < gS P → b < gB P → gC P s b = 99 → 0 < b ∧ gC P s (b - 1) ≠ -9
def PgOk (P : Pg) : Prop := PgW P ∧ PgH P
/-- a cell, a rest outside -/
def wr (P : Pg) (s b : Int) : Int := if 0 ≤ s ∧ s < gS P ∧ 0 ≤ b ∧ b < gB P then gC P s.toNat b.toNat else -9
theorem wr_in {P : Pg} {s b : Nat} (hs : s < gS P) (hb : b < gB P) : wr P s b = gC P s b := by
  unfold wr
  rw [if_pos ⟨by omega, by omega, by omega, by omega⟩]
  simp
theorem wr_rng {P : Pg} (h : PgW P) (s b : Int) : cOk (wr P s b) := by
  unfold wr
  split
  · exact h.2.2 _ _ (by omega) (by omega)
  · exact Or.inl rfl
theorem cOk_lt {c : Int} (h : cOk c) : -9 ≤ c ∧ c ≤ 99 := by unfold cOk at h; omega
theorem PgE_rng {P : Pg} (h : PgE P) {j : Nat} (hj : j < 6) : 0 ≤ gE P j ∧ gE P j ≤ 24 := by
  obtain ⟨a, b, c, d, e, f⟩ := h
  match j, hj with
  | 0, _ => omega
  | 1, _ => omega
  | 2, _ => omega
  | 3, _ => omega
  | 4, _ => omega
  | 5, _ => omega
  | n + 6, h => omega
/-- a state's cells hold this music -/
def StRep (M : Mem) (k : Nat) (P : Pg) : Prop := M (iSt k) 2 = iz (gS P) ∧ M (iSt k) 3 = iz (gB P) ∧ (∀ j, j < 6 → M (iSt k + 1) j = iz (gE P j)) ∧ ∀ s b, s < gS P → b < gB P → M (iSt k + 2) (s * 16 + b) = iz (gC P s b)
def RSt (k d : Nat) : Prop := iSt k ≤ d ∧ d < iSt k + 3
theorem StRep.off {M M' : Mem} {k : Nat} {P : Pg} {S : Nat → Prop} (h : StRep M k P) (o : Off S M M') (hS : ∀ d, RSt k d → ¬ S d) : StRep M' k P := by
  have e0 := o (iSt k) (hS _ ⟨by omega, by omega⟩)
  have e1 := o (iSt k + 1) (hS _ ⟨by omega, by omega⟩)
  have e2 := o (iSt k + 2) (hS _ ⟨by omega, by omega⟩)
  unfold StRep
  rw [e0, e1, e2]
  exact h
theorem StRep.to {M : Mem} {k : Nat} {P P' : Pg} (h : StRep M k P) (e1 : gS P' = gS P) (e2 : gB P' = gB P) (e3 : ∀ j, j < 6 → gE P' j = gE P j) (e4 : ∀ s b, s < gS P → b < gB P → gC P' s b = gC P s b) : StRep M k P' := by
  obtain ⟨a, b, c, d⟩ := h
  refine ⟨by rw [e1]; exact a, by rw [e2]; exact b, fun j hj => by rw [e3 j hj]; exact c j hj, fun s b hs hb => ?_⟩
  rw [e1] at hs; rw [e2] at hb
  rw [e4 s b hs hb]; exact d s b hs hb
section ST
variable {M : Mem} {q : Nat} {P : Pg}
theorem isPitch_eq {v : Int} (v1 : -2147483648 ≤ v) (v2 : v < 2147483648) : f_X3_isPitch (iz v) M = some (bz (0 ≤ v ∧ v ≤ 60), M) := by
  unfold f_X3_isPitch
  simp (disch := omega) only [iz_lit, iz_lt]
  by_cases h1 : v < 0
  · rw [if_pos h1, bz_f (by omega)]
  · rw [if_neg h1]
    by_cases h2 : (60 : Int) < v
    · rw [if_pos h2, bz_f (by omega)]
    · rw [if_neg h2, bz_t (by omega)]
theorem isSetting_eq {v : Int} (v1 : -2147483648 ≤ v) (v2 : v < 2147483648) : f_X3_isSetting (iz v) M = some (bz (0 ≤ v ∧ v < 6), M) := by
  unfold f_X3_isSetting
  simp (disch := omega) only [iz_lit, iz_lt, iz_le]
  by_cases h1 : v < 0
  · rw [if_pos h1, bz_f (by omega)]
  · rw [if_neg h1]
    by_cases h2 : (6 : Int) ≤ v
    · rw [if_pos h2, bz_f (by omega)]
    · rw [if_neg h2, bz_t (by omega)]
theorem hasStaff_eq (h : StRep M q P) (hP : PgD P) {v : Int} (v1 : -2147483648 ≤ v) (v2 : v < 2147483648) : f_X3_hasStaff q (iz v) M = some (bz (0 ≤ v ∧ v < gS P), M) := by
  unfold f_X3_hasStaff
  have := hP.1
  rw [h.1]
  simp (disch := omega) only [iz_lit, iz_lt, iz_le]
  by_cases h1 : v < 0
  · rw [if_pos h1, bz_f (by omega)]
  · rw [if_neg h1]
    by_cases h2 : (gS P : Int) ≤ v
    · rw [if_pos h2, bz_f (by omega)]
    · rw [if_neg h2, bz_t (by omega)]
theorem hasBeat_eq (h : StRep M q P) (hP : PgD P) {v : Int} (v1 : -2147483648 ≤ v) (v2 : v < 2147483648) : f_X3_hasBeat q (iz v) M = some (bz (0 ≤ v ∧ v < gB P), M) := by
  unfold f_X3_hasBeat
  have := hP.2
  rw [h.2.1]
  simp (disch := omega) only [iz_lit, iz_lt, iz_le]
  by_cases h1 : v < 0
  · rw [if_pos h1, bz_f (by omega)]
  · rw [if_neg h1]
    by_cases h2 : (gB P : Int) ≤ v
    · rw [if_pos h2, bz_f (by omega)]
    · rw [if_neg h2, bz_t (by omega)]
theorem hasCell_eq (h : StRep M q P) (hP : PgD P) {s b : Int} (s1 : -2147483648 ≤ s) (s2 : s < 2147483648) (b1 : -2147483648 ≤ b) (b2 : b < 2147483648) : f_X3_hasCell q (iz s) (iz b) M = some (bz ((0 ≤ s ∧ s < gS P) ∧ 0 ≤ b ∧ b < gB P), M) := by
  unfold f_X3_hasCell
  rw [hasStaff_eq h hP s1 s2, ob_some]
  simp only [iz_lit, bz_0, hasBeat_eq h hP b1 b2, ob_some]
  by_cases h1 : 0 ≤ s ∧ s < gS P
  · rw [if_neg (by simpa using h1)]
    by_cases h2 : 0 ≤ b ∧ b < gB P
    · rw [if_neg (by simpa using h2), bz_t ⟨h1, h2⟩]
    · rw [if_pos (by simpa using h2), bz_f (fun h => h2 h.2)]
  · rw [if_pos (by simpa using h1), bz_f (fun h => h1 h.1)]
theorem written_eq (h : StRep M q P) (hP : PgD P) {s b : Int} (s1 : -2147483648 ≤ s) (s2 : s < 2147483648) (b1 : -2147483648 ≤ b) (b2 : b < 2147483648) : f_X3_written q (iz s) (iz b) M = some (iz (wr P s b), M) := by
  unfold f_X3_written wr
  have hS := hP.1
  have hB := hP.2
  rw [h.1, h.2.1]
  simp (disch := omega) only [iz_lit, iz_neg, iz_lt, iz_le]
  by_cases h1 : s < 0
  · rw [if_pos h1, if_neg (by omega)]
  · rw [if_neg h1]
    by_cases h2 : (gS P : Int) ≤ s
    · rw [if_pos h2, if_neg (by omega)]
    · rw [if_neg h2]
      by_cases h3 : b < 0
      · rw [if_pos h3, if_neg (by omega)]
      · rw [if_neg h3]
        by_cases h4 : (gB P : Int) ≤ b
        · rw [if_pos h4, if_neg (by omega)]
        · rw [if_neg h4]
          simp (disch := omega) only [iz_mul, iz_add, iz_inb, iz_cl]
          rw [if_pos (by omega), if_pos (by omega)]
          have := h.2.2.2 s.toNat b.toNat (by omega) (by omega)
          rw [← this, show (s * 16 + b).toNat = s.toNat * 16 + b.toNat by omega]
theorem written_nat (h : StRep M q P) (hP : PgD P) {s b : Nat} (hs : s < gS P) (hb : b < gB P) : f_X3_written q (iz s) (iz b) M = some (iz (gC P s b), M) := by
  have h1 := hP.1
  have h2 := hP.2
  rw [written_eq h hP (by omega) (by omega) (by omega) (by omega), wr_in hs hb]
theorem allowsHold_eq (h : StRep M q P) (hP : PgW P) {s b : Int} (s1 : -2147483648 ≤ s) (s2 : s < 2147483648) (b1 : -2147483648 < b) (b2 : b < 2147483648) : f_X3_allowsHold q (iz s) (iz b) M = some (bz (wr P s (b - 1) ≠ -9), M) := by
  unfold f_X3_allowsHold
  have hw := cOk_lt (wr_rng hP s (b - 1))
  simp only [iz_lit, iz_sub, iz_neg]
  rw [written_eq h hP.1 s1 s2 (by omega) (by omega), ob_some]
  simp (disch := omega) only [iz_eq]
  by_cases h1 : wr P s (b - 1) = -9
  · rw [if_pos h1, bz_f (by simpa using h1)]
  · rw [if_neg h1, bz_t h1]
theorem settingAt_eq (h : StRep M q P) {j : Nat} (hj : j < 6) : f_X3_settingAt q (iz j) M = some (iz (gE P j), M) := by
  unfold f_X3_settingAt
  rw [isSetting_eq (by omega) (by omega), ob_some]
  simp (disch := omega) only [iz_lit, bz_0, iz_inb, iz_cl]
  rw [if_neg (by omega), if_pos (by omega), ← h.2.2.1 j hj]
  simp
end ST
