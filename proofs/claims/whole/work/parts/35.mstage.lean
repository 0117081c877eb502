theorem poss_gen {P : Pg} (hP : PgE P) {b : Nat} {ρ : Nat → Int} (hk : ∀ s, ρ s = 0 → s = 0 ∨ s + 1 = gS P) (hR : IsRow (sp P b) (kp ρ) (rN P b ρ) (rR P b ρ)) : pkm P b ρ ≠ 0 := by
  have e2 := hP.2.2.1
  have e0 := PgE_rng hP (j := 0) (by omega)
  have e0' := PgE_rng hP (j := 1) (by omega)
  have e3 := PgE_rng hP (j := 3) (by omega)
  have hn : rN P b ρ ≤ 2 := by
    refine Nat.le_of_not_lt fun c => ?_
    have k : ∀ i, i < 3 → rR P b ρ i = 0 ∨ rR P b ρ i + 1 = gS P := fun i hi => hk _ (hR.1 i (by omega)).2
    have l1 := hR.2.2 0 1 (by omega) (by omega)
    have l2 := hR.2.2 1 2 (by omega) (by omega)
    have l3 := hR.2.2 0 2 (by omega) (by omega)
    have n1 : rR P b ρ 0 ≠ rR P b ρ 1 := fun e => by rw [e] at l1; omega
    have n2 : rR P b ρ 1 ≠ rR P b ρ 2 := fun e => by rw [e] at l2; omega
    have n3 : rR P b ρ 0 ≠ rR P b ρ 2 := fun e => by rw [e] at l3; omega
    have k0 := k 0 (by omega)
    have k1 := k 1 (by omega)
    have k2 := k 2 (by omega)
    omega
  have w : ∀ i j, j ≤ i + 1 → widP P b ρ i j = 0 := fun i j hj => by
    unfold widP
    split
    · rw [show j - 1 = i by omega, Int.sub_self]
    · rfl
  have cp : ∀ h i j, h < 2 → i ≤ j → j ≤ i + 1 → canP P b ρ h i j := fun h i j hh hij hj => by
    refine ⟨by omega, ?_⟩
    rw [w i j hj]
    have := PgE_rng hP (j := h) (by omega)
    split <;> omega
  intro hz
  have hz : mf (fun k => decide (pk P b ρ k)) = 0 := hz
  have hz := (mf_zero _).mp hz
  by_cases d : rN P b ρ ≤ 1
  · exact (of_decide_eq_false (hz 0 (by omega))) ⟨by omega, cp 0 0 0 (by omega) (by omega) (by omega), cp 1 0 _ (by omega) (by omega) (by omega)⟩
  · exact (of_decide_eq_false (hz 1 (by omega))) ⟨by omega, cp 0 0 1 (by omega) (by omega) (by omega), cp 1 1 _ (by omega) (by omega) (by omega)⟩
section MO
variable {M : Mem} {r b : Nat} {P : Pg} {ρ : Nat → Int}
theorem inner_ex (hP : PgE P) {t : Nat} (hR : IsRow (sp P b) (kp (drp P b t)) (rN P b (drp P b t)) (rR P b (drp P b t))) (hz : pkm P b (drp P b t) = 0) : ∃ s, 1 ≤ s ∧ s + 1 < gS P ∧ drp P b t s = 0 := by
  by_cases e : ∃ s, 1 ≤ s ∧ s + 1 < gS P ∧ drp P b t s = 0
  · exact e
  · refine absurd hz (poss_gen hP (fun s hs => ?_) hR)
    have hl := (kept_lt (RO_drp P b t) hs).1
    by_cases d : 1 ≤ s ∧ s + 1 < gS P
    · exact absurd ⟨s, d.1, d.2, hs⟩ e
    · omega
theorem dropInner_tot (h : PR M r 0 P) {t : Nat} (hB : MB M P b (drp P b t)) (hP : PgW P) (hl : lnA r = 72) (hb : b < gB P) (he : ∃ s, 1 ≤ s ∧ s + 1 < gS P ∧ drp P b t s = 0) : Tot (f_X6_dropInner r (iz b) M) (fun x => ∃ s, 1 ≤ s ∧ s < t ∧ MB x.2 P b (drp P b s) ∧ (∀ t', s < t' → t' ≤ t → drp P b t' = drp P b t) ∧ OffB b M x.2) := by
  unfold f_X6_dropInner
  have h1 := hP.1.1
  have h2 := hP.1.2
  have i6 : inb 6 (lnA r) := by rw [hl]; decide
  obtain ⟨s0, hs0, hs1, hk0⟩ := he
  have dd : ∀ t s, drp P b t s = if 1 ≤ s ∧ t ≤ s ∧ s + 1 < gS P ∧ rs1 P b 4 s = 0 then 3 else rs1 P b 4 s := fun _ _ => rfl
  have rr : ∀ s, drp P b t s = 0 → rs1 P b 4 s = 0 := fun s hs => by
    rw [dd] at hs
    split at hs
    · omega
    · exact hs
  rw [if_pos i6, c6, h.S, show (2 : Int32) = iz 2 from rfl, iz_sub, show (gS P : Int) - 2 = ((gS P - 2 : Nat) : Int) by omega]
  refine dnx_tot (fun a M' => M' = M ∧ s0 ≤ a ∧ a + 2 ≤ gS P ∧ ∀ u, a < u → u + 1 < gS P → drp P b t u ≠ 0) ?_ 9999 (gS P - 2) M ⟨rfl, by omega, by omega, fun u h1 h2 => by omega⟩ (by omega)
  intro k a M' ⟨e1, ha, ha2, hu⟩ hk
  subst e1
  unfold f_X6_dropInner_b7
  have hx := pg_lt hP.1 (s := a) (by omega) hb
  have sr := sp_rng hP hb a
  have hRO := RO_drp P b t a
  have dec : iz (a : Int) + -1 = iz ((a : Int) - 1) := by
    rw [show (-1 : Int32) = iz (-1) from rfl, iz_add]; rfl
  have e9 : (iz (sp P b a) = -9) = (sp P b a = -9) := by rw [show (-9 : Int32) = iz (-9) from rfl, iz_eq (by omega) (by omega) (by omega) (by omega)]
  rw [at_eq, ob_some, if_pos (inb_n hx (by omega)), cl_n (n := 16 * a + b) (by omega), hB.1 a (by omega), dec]
  have go : drp P b t a ≠ 0 → Tot (k (iz ((a : Int) - 1)) M') (fun x => ∃ s, 1 ≤ s ∧ s < t ∧ MB x.2 P b (drp P b s) ∧ (∀ t', s < t' → t' ≤ t → drp P b t' = drp P b t) ∧ OffB b M' x.2) := fun hn => by
    have hne : a ≠ s0 := fun z => hn (by rw [z]; exact hk0)
    rw [show (a : Int) - 1 = ((a - 1 : Nat) : Int) by omega]
    refine hk M' (by omega) ⟨rfl, by omega, by omega, fun u h1 h2 => ?_⟩
    by_cases e : u = a
    · rw [e]; exact hn
    · exact hu u (by omega) h2
  by_cases c9 : sp P b a = -9
  · rw [if_pos (by rw [e9]; exact c9)]
    exact go (by have := hRO.2.mpr c9; omega)
  · rw [if_neg (by rw [e9]; exact c9), at_eq, ob_some, if_pos (inb_n hx (by omega)), cl_n (n := 16 * a + b) (by omega), hB.2 a (by omega)]
    have em : mr (drp P b t) a = drp P b t a := by unfold mr; rw [if_neg (fun z => c9 (hRO.2.mp z))]
    have e0 : (iz (mr (drp P b t) a) = 0) = (drp P b t a = 0) := by rw [em, show (0 : Int32) = iz 0 from rfl, iz_eq (by omega) (by omega) (by omega) (by omega)]
    by_cases cr : drp P b t a = 0
    · rw [if_pos (by rw [e0]; exact cr)]
      unfold f_X6_dropInner_b41
      rw [at_eq, ob_some, if_pos (inb_n hx (by omega)), cl_n (n := 16 * a + b) (by omega)]
      have hat : a < t := by
        refine Nat.lt_of_not_le fun z => ?_
        have := cr
        rw [dd, if_pos ⟨by omega, z, by omega, rr a cr⟩] at this
        omega
      have hkill : ∀ u, a < u → u + 1 < gS P → u < t → rs1 P b 4 u ≠ 0 := fun u h1 h2 h3 z => by
        refine hu u h1 h2 ?_
        rw [dd, if_neg (by omega)]
        exact z
      refine Tot.mk ⟨a, by omega, hat, ⟨fun s hs => ?_, fun s hs => ?_⟩, fun t' h1 h2 => ?_, OffB.rf.put (Or.inl ⟨rfl, by omega⟩)⟩
      · show mw M' 37 (16 * a + b) 3 36 (16 * s + b) = _
        rw [mw_ne (by omega)]; exact hB.1 s hs
      · show mw M' 37 (16 * a + b) 3 37 (16 * s + b) = _
        rw [mw_at]
        by_cases e : s = a
        · rw [if_pos (by omega), e]
          have : drp P b a a = 3 := by rw [dd, if_pos ⟨by omega, Nat.le_refl a, by omega, rr a cr⟩]
          unfold mr
          rw [this, if_neg (by omega)]
          rfl
        · rw [if_neg (by omega), hB.2 s hs]
          have : drp P b a s = drp P b t s := by
            rw [dd, dd]
            by_cases z : 1 ≤ s ∧ a ≤ s ∧ s + 1 < gS P ∧ rs1 P b 4 s = 0
            · by_cases y : s < t
              · exact absurd z.2.2.2 (hkill s (by omega) z.2.2.1 y)
              · rw [if_pos z, if_pos ⟨z.1, by omega, z.2.2⟩]
            · rw [if_neg z, if_neg (fun y => z ⟨y.1, by omega, y.2.2⟩)]
          unfold mr
          rw [this]
      · funext s
        rw [dd, dd]
        by_cases z : 1 ≤ s ∧ t' ≤ s ∧ s + 1 < gS P ∧ rs1 P b 4 s = 0
        · by_cases y : s < t
          · exact absurd z.2.2.2 (hkill s (by omega) z.2.2.1 y)
          · rw [if_pos z, if_pos ⟨z.1, by omega, z.2.2⟩]
        · rw [if_neg z, if_neg (fun y => z ⟨y.1, by omega, y.2.2⟩)]
    · rw [if_neg (by rw [e0]; exact cr)]
      exact go cr
/-- a beat that is laid -/
def ML (M : Mem) (P : Pg) (b : Nat) : Prop := MB M P b (rho P b) ∧ MW M P b (rho P b) ∧ M 40 b = pkm P b (rho P b)
theorem ML.off {M' : Mem} {b' : Nat} (h : ML M P b) (o : OffB b' M M') (hb : b < 16) (hn : b ≠ b') : ML M' P b := by
  have n4 := row_n4 h.2.1.2.2
  exact ⟨h.1.off o hb hn, ⟨by rw [o.2.2.2.1 _ hn]; exact h.2.1.1, fun i hi => by rw [o.2.2.1 _ (by omega)]; exact h.2.1.2.1 i hi, h.2.1.2.2⟩, by rw [o.2.2.2.2 _ hn]; exact h.2.2⟩
theorem ML.same {M' : Mem} (h : ML M P b) (e : ∀ d, 36 ≤ d → d ≤ 40 → M' d = M d) : ML M' P b :=
  ⟨⟨fun s hs => by rw [e 36 (by omega) (by omega)]; exact h.1.1 s hs, fun s hs => by rw [e 37 (by omega) (by omega)]; exact h.1.2 s hs⟩, ⟨by rw [e 39 (by omega) (by omega)]; exact h.2.1.1, fun i hi => by rw [e 38 (by omega) (by omega)]; exact h.2.1.2.1 i hi, h.2.1.2.2⟩, by rw [e 40 (by omega) (by omega)]; exact h.2.2⟩
end MO
