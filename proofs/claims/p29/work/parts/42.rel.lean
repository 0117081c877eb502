/-! WHAT BOTH HOLD: text, music, history, slots -/
abbrev Ds : Type := (Nat × (Nat → Int)) × Pg × (Nat × (Nat → Pg)) × ((Nat → Bool) × (Nat → Pg))
abbrev dN (D : Ds) : Nat := D.1.1
abbrev dT (D : Ds) : Nat → Int := D.1.2
abbrev dP (D : Ds) : Pg := D.2.1
abbrev dH (D : Ds) : Nat := D.2.2.1.1
abbrev dQ (D : Ds) : Nat → Pg := D.2.2.1.2
abbrev dF (D : Ds) : Nat → Bool := D.2.2.2.1
abbrev dS (D : Ds) : Nat → Pg := D.2.2.2.2
def DOk (D : Ds) : Prop := dN D ≤ 140 ∧ (∀ i, i < dN D → 0 ≤ dT D i ∧ dT D i ≤ 255) ∧ PgOk (dP D) ∧ dH D ≤ 14 ∧ (∀ j, j < dH D → PgOk (dQ D j)) ∧ ∀ s, s < 2 → dF D s = true → PgOk (dS D s)
def CRel (M : Mem) (D : Ds) : Prop :=
  (M 1 1 = iz (dN D) ∧ ∀ i, i < dN D → M 2 i = iz (dT D i)) ∧ StRep M 0 (dP D) ∧
  (∃ nx : Nat, nx < 14 ∧ M 3 1 = iz nx ∧ M 3 2 = iz (dH D) ∧ ∀ j, j < dH D → StRep M (4 + (nx + 14 - dH D + j) % 14) (dQ D j)) ∧
  (∀ s, s < 2 → M 6 s = iz (b01 (dF D s)) ∧ (dF D s = true → StRep M (2 + s) (dS D s))) ∧ RZ M
def CI (d : Nat) : Prop := d < 27 ∨ (44 ≤ d ∧ d < 302)
theorem iSt_eq (k : Nat) : iSt k = 44 + 3 * k := rfl
theorem StRep.same {M M' : Mem} {k : Nat} {P : Pg} (h : StRep M k P) (e : ∀ d, iSt k ≤ d → d < iSt k + 3 → M' d = M d) : StRep M' k P := by
  unfold StRep
  rw [e (iSt k) (by omega) (by omega), e (iSt k + 1) (by omega) (by omega), e (iSt k + 2) (by omega) (by omega)]
  exact h
theorem RZ.same {M M' : Mem} (h : RZ M) (e : ∀ d, 98 ≤ d → d < 302 → M' d = M d) : RZ M' :=
  ⟨fun c hc => by rw [e _ (by have := iCh_eq c; omega) (by have := iCh_eq c; omega)]; exact h.1 c hc, h.2.same (fun d hd => e d (by have := hd.1; have := iCh_eq 16; omega) (by have := hd.2; have := iCh_eq 16; omega))⟩
/-- what a class's call may use for itself: the trial, the chords -/
def CT (d : Nat) : Prop := RSt 1 d ∨ RRd d
theorem CRel.tmp {M M' : Mem} {D : Ds} (h : CRel M D) (o : Off CT M M') (hz : RZ M') : CRel M' D := by
  have ne : ∀ d, (d < 7 ∨ (44 ≤ d ∧ d < 47) ∨ (50 ≤ d ∧ d < 98)) → M' d = M d := fun d hd => o d (by
    intro z
    unfold CT RSt RRd at z
    have := iSt_eq 1
    omega)
  obtain ⟨⟨a1, a2⟩, b, ⟨nx, c1, c2, c3, c4⟩, d, e⟩ := h
  refine ⟨⟨by rw [ne 1 (by omega)]; exact a1, fun i hi => by rw [ne 2 (by omega)]; exact a2 i hi⟩, b.same (fun d h1 h2 => ne d (by have := iSt_eq 0; omega)), ⟨nx, c1, by rw [ne 3 (by omega)]; exact c2, by rw [ne 3 (by omega)]; exact c3, fun j hj => (c4 j hj).same (fun d h1 h2 => ne d (by have := iSt_eq (4 + (nx + 14 - dH D + j) % 14); omega))⟩, fun s hs => ⟨by rw [ne 6 (by omega)]; exact (d s hs).1, fun hf => ((d s hs).2 hf).same (fun d h1 h2 => ne d (by have := iSt_eq (2 + s); omega))⟩, hz⟩
theorem CRel.gen {M M' : Mem} {D : Ds} (h : CRel M D) (ne : ∀ d, (d < 7 ∨ (44 ≤ d ∧ d < 47) ∨ (50 ≤ d ∧ d < 98)) → M' d = M d) (hz : RZ M') : CRel M' D := by
  obtain ⟨⟨a1, a2⟩, b, ⟨nx, c1, c2, c3, c4⟩, d, e⟩ := h
  refine ⟨⟨by rw [ne 1 (by omega)]; exact a1, fun i hi => by rw [ne 2 (by omega)]; exact a2 i hi⟩, b.same (fun d h1 h2 => ne d (by have := iSt_eq 0; omega)), ⟨nx, c1, by rw [ne 3 (by omega)]; exact c2, by rw [ne 3 (by omega)]; exact c3, fun j hj => (c4 j hj).same (fun d h1 h2 => ne d (by have := iSt_eq (4 + (nx + 14 - dH D + j) % 14); omega))⟩, fun s hs => ⟨by rw [ne 6 (by omega)]; exact (d s hs).1, fun hf => ((d s hs).2 hf).same (fun d h1 h2 => ne d (by have := iSt_eq (2 + s); omega))⟩, hz⟩
theorem lgc_lt {a b : Int} (a1 : -2147483648 ≤ a) (a2 : a < 2147483648) (b1 : -2147483648 ≤ b) (b2 : b < 2147483648) : (lg_cmp (Int32.toInt64 (iz a)) (Int32.toInt64 (iz b)) < 0) = (a < b) := by
  refine propext ((lg_cmp_lt _ _).trans ?_)
  rw [Int64.lt_iff_toInt_lt, Int32.toInt_toInt64, Int32.toInt_toInt64, iz_toInt a1 a2, iz_toInt b1 b2]
theorem lgc_gt {a b : Int} (a1 : -2147483648 ≤ a) (a2 : a < 2147483648) (b1 : -2147483648 ≤ b) (b2 : b < 2147483648) : (0 < lg_cmp (Int32.toInt64 (iz a)) (Int32.toInt64 (iz b))) = (b < a) := by
  refine propext ((lg_cmp_gt _ _).trans ?_)
  rw [Int64.lt_iff_toInt_lt, Int32.toInt_toInt64, Int32.toInt_toInt64, iz_toInt a1 a2, iz_toInt b1 b2]
theorem lgc_self (x : Int32) : lg_cmp (Int32.toInt64 x) (Int32.toInt64 x) = 0 := by
  unfold lg_cmp
  rw [if_neg (show ¬ (x.toInt64 > x.toInt64) from fun h => Int64.lt_irrefl h), if_pos rfl]
theorem izself (x : Int32) : ∃ v : Int, x = iz v ∧ -2147483648 ≤ v ∧ v < 2147483648 := ⟨x.toInt, (iz_self x).symm, (iz_rng x).1, (iz_rng x).2⟩
theorem CRel.out {M : Mem} {D : Ds} (h : CRel M D) (v : Int32) : CRel (mw M 43 0 v) D :=
  h.gen (fun d hd => mw_ne (by omega)) (h.2.2.2.2.same (fun d h1 h2 => mw_ne (by omega)))
