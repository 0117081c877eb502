theorem rOf_rng (P : Pg) (b : Nat) (ρ : Nat → Int) (i : Nat) : 0 ≤ rOf P b ρ i ∧ rOf P b ρ i ≤ 2 := by
  unfold rOf
  by_cases h : ex1 P b ρ i 4
  · rw [if_pos h]; omega
  · rw [if_neg h]
    by_cases h : ex2 P b ρ i 4
    · rw [if_pos h]; omega
    · rw [if_neg h]; omega
theorem rs1_rng (P : Pg) (b : Nat) : ∀ n s, rs1 P b n s = -9 ∨ (0 ≤ rs1 P b n s ∧ rs1 P b n s ≤ 2)
  | 0, s => by
    show r0 P b s = -9 ∨ (0 ≤ r0 P b s ∧ r0 P b s ≤ 2)
    unfold r0
    split <;> omega
  | n + 1, s => by
    unfold rs1
    split
    · have := rOf_rng P b (rs1 P b n) s
      omega
    · exact rs1_rng P b n s
theorem drp_rng (P : Pg) (b t s : Nat) : drp P b t s = -9 ∨ (0 ≤ drp P b t s ∧ drp P b t s ≤ 3) := by
  unfold drp
  have := rs1_rng P b 4 s
  split <;> omega
theorem rs1_none (P : Pg) (b : Nat) : ∀ n s, (rs1 P b n s = -9) = (sp P b s = -9)
  | 0, s => by
    show (r0 P b s = -9) = _
    unfold r0
    by_cases h : sp P b s = -9
    · rw [if_pos h]; simp [h]
    · rw [if_neg h]; simp [h]
  | n + 1, s => by
    have ih := rs1_none P b n s
    unfold rs1
    split
    · rename_i c
      have h2 := rOf_rng P b (rs1 P b n) s
      rw [← ih, c.2.2.2]
      exact propext ⟨fun h => by omega, fun h => by omega⟩
    · exact ih
theorem rs1_top (P : Pg) (b : Nat) {n : Nat} (h : gS P ≤ n + 1) : rs1 P b (n + 1) = rs1 P b n := by
  funext s
  show (if s = n ∧ 1 ≤ n ∧ n + 1 < gS P ∧ rs1 P b n s = 0 then rOf P b (rs1 P b n) s else rs1 P b n s) = _
  rw [if_neg (by omega)]
theorem rs1_top4 (P : Pg) (b : Nat) (h4 : gS P ≤ 4) {n : Nat} (h : gS P ≤ n + 1) (hn : n ≤ 4) : rs1 P b n = rs1 P b 4 := by
  rcases (show n = 0 ∨ n = 1 ∨ n = 2 ∨ n = 3 ∨ n = 4 by omega) with rfl | rfl | rfl | rfl | rfl
  · rw [rs1_top P b (n := 3) (by omega), rs1_top P b (n := 2) (by omega), rs1_top P b (n := 1) (by omega), rs1_top P b (n := 0) (by omega)]
  · rw [rs1_top P b (n := 3) (by omega), rs1_top P b (n := 2) (by omega), rs1_top P b (n := 1) (by omega)]
  · rw [rs1_top P b (n := 3) (by omega), rs1_top P b (n := 2) (by omega)]
  · rw [rs1_top P b (n := 3) (by omega)]
  · rfl
/-- a staff is looked at once -/
theorem rs1_one (P : Pg) (b : Nat) : ∀ {n s : Nat}, n ≤ s → rs1 P b n s = r0 P b s
  | 0, _, _ => rfl
  | n + 1, s, h => by
    show (if s = n ∧ 1 ≤ n ∧ n + 1 < gS P ∧ rs1 P b n s = 0 then rOf P b (rs1 P b n) s else rs1 P b n s) = _
    rw [if_neg (by omega), rs1_one P b (n := n) (by omega)]
theorem drp_top (P : Pg) (b : Nat) {t : Nat} (h : gS P ≤ t + 1) : drp P b t = rs1 P b 4 := by
  funext s
  unfold drp
  rw [if_neg (by omega)]
section CH
variable {M : Mem} {q c b : Nat} {P : Pg} {ρ : Nat → Int}
theorem rf_step (h : CB M c P b ρ) (hP : PgW P) (hb : b < gB P) (hr : ∀ s, -9 ≤ ρ s ∧ ρ s ≤ 3) {i k : Nat} (hi : i < 4) (hk : k < 4) (v2 v3 : Int32) (k5 : Int32 → Int32 → Mem → Option (Int32 × Mem)) :
    f_X0_reasonFor_b23 c (iz i) v2 v3 (iz k) k5 M = if ρ k = 0 then (if sp P b i = sp P b k then some (iz 1, M) else if gE P 4 = 1 ∧ (sp P b i - sp P b k) % 12 = 0 then k5 (iz 2) (iz (k + 1 : Nat)) M else k5 v3 (iz (k + 1 : Nat)) M) else k5 v3 (iz (k + 1 : Nat)) M := by
  unfold f_X0_reasonFor_b23
  have a1 := sp_rng hP hb i
  have a2 := sp_rng hP hb k
  have a3 := hr k
  have e4 := hP.2.1.2.2.2.2.1
  simp (disch := omega) only [iz_lit, iz_neg, iz_add, iz_sub, iz_mul, iz_lt, iz_le, iz_eq, iz_inb, iz_cl, bz_0, ob_some]
  rw [show (k : Int).toNat = k by omega, show (i : Int).toNat = i by omega, h.1 i hi, h.1 k hk, h.2.1 k hk, h.2.2.1.2.2.2]
  rw [if_pos (by omega)]
  simp (disch := omega) only [iz_lit, iz_neg, iz_add, iz_sub, iz_mul, iz_lt, iz_le, iz_eq, iz_inb, iz_cl, bz_0, ob_some]
  by_cases c0 : ρ k = 0
  · rw [if_pos c0, if_pos c0, if_pos (by omega), if_pos (by omega)]
    by_cases c1 : sp P b i = sp P b k
    · rw [if_pos c1, c1, Int.sub_self]
      simp
    · rw [if_neg c1]
      have fin : ∀ x : Int, 0 < x → x ≤ 69 → (x = sp P b i - sp P b k ∨ x = sp P b k - sp P b i) → (if iz x = iz 0 then some (iz 1, M) else if gE P 4 = 0 then k5 v3 (iz (↑k + 1)) M else if iz x - iz x / iz 12 * iz 12 = iz 0 then k5 (iz 2) (iz (↑k + 1)) M else k5 v3 (iz (↑k + 1)) M) = if gE P 4 = 1 ∧ (sp P b i - sp P b k) % 12 = 0 then k5 (iz 2) (iz (k + 1 : Nat)) M else k5 v3 (iz (k + 1 : Nat)) M := by
        intro x x0 x1 hx
        rw [iz_div (by omega) (by omega) (by omega) (by omega)]
        simp (disch := omega) only [iz_lit, iz_neg, iz_add, iz_sub, iz_mul, iz_lt, iz_le, iz_eq, iz_inb, iz_cl, bz_0, ob_some]
        rw [if_neg (by omega)]
        by_cases c2 : gE P 4 = 0
        · rw [if_pos c2, if_neg (by omega)]
          rfl
        · rw [if_neg c2]
          by_cases c3 : (sp P b i - sp P b k) % 12 = 0
          · rw [if_pos (by omega), if_pos ⟨by omega, c3⟩]; rfl
          · rw [if_neg (by omega), if_neg (by omega)]; rfl
      by_cases c2 : 0 ≤ sp P b i - sp P b k
      · rw [if_pos c2]
        exact fin _ (by omega) (by omega) (Or.inl rfl)
      · rw [if_neg c2]
        exact fin _ (by omega) (by omega) (Or.inr (by omega))
  · rw [if_neg c0, if_neg c0]
    rfl
theorem reasonFor_eq (h : CB M c P b ρ) (hP : PgW P) (hb : b < gB P) (hr : ∀ s, -9 ≤ ρ s ∧ ρ s ≤ 3) {i : Nat} (hi : i < 4) : f_X0_reasonFor c (iz i) (iz ((gS P - 1 : Nat) : Int)) M = some (iz (rOf P b ρ i), M) := by
  unfold f_X0_reasonFor
  have h1 := hP.1.1
  refine Tot.eq ?_
  rw [iz_lit]
  refine up2_tot 4 (fun k v3 M' => M' = M ∧ ¬ ex1 P b ρ i k ∧ v3 = iz (if ex2 P b ρ i k then 2 else 0)) ?_ ?_ 9999 0 _ M (by omega) ⟨rfl, (fun ⟨k, hk, _⟩ => Nat.not_lt_zero k hk), ?_⟩ (by omega)
  · intro K k v3 M' hk ⟨e1, n1, e3⟩ hK
    subst e1
    unfold f_X0_reasonFor_b5
    rw [rf_step h hP hb hr hi hk]
    simp (disch := omega) only [iz_lit, iz_neg, iz_add, iz_sub, iz_mul, iz_lt, iz_le, iz_eq, iz_inb, iz_cl, bz_0, ob_some]
    rw [if_neg (by omega)]
    have skip : ¬ (KB P i k ∧ ρ k = 0) → Tot (K v3 (iz ((k : Int) + 1)) M') (fun r => r = (iz (rOf P b ρ i), M')) := fun hn => by
      refine hK v3 M' ⟨rfl, fun ⟨m, hm, x, y⟩ => ?_, ?_⟩
      · by_cases e : m = k
        · rw [e] at x; exact hn x
        · exact n1 ⟨m, by omega, x, y⟩
      · rw [e3]
        refine congrArg iz ?_
        by_cases c1 : ex2 P b ρ i k
        · rw [if_pos c1, if_pos ⟨c1.1, by obtain ⟨_, m, hm, x⟩ := c1; exact ⟨m, by omega, x⟩⟩]
        · rw [if_neg c1, if_neg]
          intro ⟨o, m, hm, x, y⟩
          by_cases e : m = k
          · rw [e] at x; exact hn x
          · exact c1 ⟨o, m, by omega, x, y⟩
    have main : KB P i k → Tot (if ρ k = 0 then (if sp P b i = sp P b k then some (iz 1, M') else if gE P 4 = 1 ∧ (sp P b i - sp P b k) % 12 = 0 then K (iz 2) (iz ((k + 1 : Nat) : Int)) M' else K v3 (iz ((k + 1 : Nat) : Int)) M') else K v3 (iz ((k + 1 : Nat) : Int)) M') (fun r => r = (iz (rOf P b ρ i), M')) := fun hkb => by
      by_cases c0 : ρ k = 0
      · rw [if_pos c0]
        by_cases c1 : sp P b i = sp P b k
        · rw [if_pos c1]
          refine Tot.mk ?_
          unfold rOf
          rw [if_pos ⟨k, hk, ⟨hkb, c0⟩, c1⟩]
        · rw [if_neg c1]
          have n1' : ¬ ex1 P b ρ i (k + 1) := fun ⟨m, hm, x, y⟩ => by
            by_cases e : m = k
            · rw [e] at y; exact c1 y
            · exact n1 ⟨m, by omega, x, y⟩
          by_cases c2 : gE P 4 = 1 ∧ (sp P b i - sp P b k) % 12 = 0
          · rw [if_pos c2]
            refine hK _ M' ⟨rfl, n1', ?_⟩
            rw [if_pos ⟨c2.1, k, by omega, ⟨hkb, c0⟩, c2.2⟩]
          · rw [if_neg c2]
            refine hK _ M' ⟨rfl, n1', ?_⟩
            rw [e3]
            refine congrArg iz ?_
            by_cases c1 : ex2 P b ρ i k
            · rw [if_pos c1, if_pos ⟨c1.1, by obtain ⟨_, m, hm, x⟩ := c1; exact ⟨m, by omega, x⟩⟩]
            · rw [if_neg c1, if_neg]
              intro ⟨o, m, hm, x, y⟩
              by_cases e : m = k
              · rw [e] at y; exact c2 ⟨o, y⟩
              · exact c1 ⟨o, m, by omega, x, y⟩
      · rw [if_neg c0]
        exact skip (fun z => c0 z.2)
    by_cases d1 : (k : Int) < i
    · rw [if_pos d1]; exact main (Or.inl (by omega))
    · rw [if_neg d1]
      by_cases d2 : (k : Int) = ((gS P - 1 : Nat) : Int)
      · rw [if_pos d2]; exact main (Or.inr (by omega))
      · rw [if_neg d2]
        exact skip (fun z => by rcases z.1 with z | z <;> omega)
  · intro K v3 M' ⟨e1, n1, e3⟩
    subst e1
    unfold f_X0_reasonFor_b5
    simp (disch := omega) only [iz_lit, iz_neg, iz_add, iz_sub, iz_mul, iz_lt, iz_le, iz_eq, iz_inb, iz_cl, bz_0, ob_some]
    rw [if_pos (by omega)]
    refine Tot.mk ?_
    rw [e3]
    unfold rOf
    rw [if_neg n1]
  · rw [if_neg (fun ⟨_, m, hm, _⟩ => Nat.not_lt_zero m hm)]
end CH
