theorem backN {nx : Nat} (h : nx < 14) : iz (nx : Int) + 14 - 1 - (iz (nx : Int) + 14 - 1) / 14 * 14 = iz (((nx + 13) % 14 : Nat) : Int) := by
  rw [show iz (nx : Int) + 14 - 1 = iz ((nx : Int) + 14 - 1) by rw [show (14 : Int32) = iz 14 from rfl, show (1 : Int32) = iz 1 from rfl, iz_add, iz_sub], show (14 : Int32) = iz 14 from rfl, iz_div (by omega) (by omega) (by omega) (by omega), iz_mul, iz_sub]
  congr 1
  omega
theorem dBack_Ok {D : Ds} (h : DOk D) (h0 : 0 < dH D) : DOk (dBack D) :=
  ⟨h.1, h.2.1, h.2.2.2.2.1 _ (by omega), by show dH D - 1 ≤ 14; have := h.2.2.2.1; omega, fun j hj => h.2.2.2.2.1 j (by have hj : j < dH D - 1 := hj; omega), h.2.2.2.2.2⟩
theorem m_back {M : Mem} {D : Ds} (h : MRel M D) (hD : DOk D) (h0 : 0 < dH D) : Tot (f_X6_undo_b13 0 M) (fun x => x.1 = iz (dH D - 1 : Nat) ∧ x.2 27 0 = 0 ∧ MRel x.2 (dBack D) ∧ Off MI M x.2) := by
  have h14 := hD.2.2.2.1
  unfold f_X6_undo_b13
  rw [ref_yes]
  have e9 : mw M 27 0 0 27 9 = iz (dH D) := by rw [mw_at, if_neg (by omega)]; exact h.2.2.1.1
  rw [e9, pm1 _ h0]
  have e9' : mw (mw M 27 0 0) 27 9 (iz ((dH D - 1 : Nat) : Int)) 27 9 = iz ((dH D - 1 : Nat) : Int) := by rw [mw_at, if_pos rfl]
  rw [e9', show (72 : Int32) * iz ((dH D - 1 : Nat) : Int) = iz ((72 * (dH D - 1) : Nat) : Int) by rw [show (72 : Int32) = iz 72 from rfl, iz_mul]; rfl, show (0 : Int32) = iz ((0 : Nat) : Int) from rfl]
  refine Tot.ob ((copyPage_tot (r := 33) (q := 30) (a := 72 * (dH D - 1)) (c := 0) (by show _ ≤ 1008; omega) (by show 0 + 72 ≤ 72; omega) (by decide) (by decide) (by omega)).mono ?_)
  intro ⟨_, M2⟩ ⟨k1, _, k3⟩
  have k3 : Off (fun d => d = 30) (mw (mw M 27 0 (iz ((0 : Nat) : Int))) 27 9 (iz ((dH D - 1 : Nat) : Int))) M2 := k3
  have sm : ∀ d, d ≠ 30 → d ≠ 27 → M2 d = M d := fun d x y => (k3 d x).trans ((mw_ne y).trans (mw_ne y))
  have h27 : M2 27 = mw (mw M 27 0 (iz ((0 : Nat) : Int))) 27 9 (iz ((dH D - 1 : Nat) : Int)) 27 := k3 27 (by omega)
  have s9 : M2 27 9 = iz ((dH D - 1 : Nat) : Int) := by rw [h27, mw_at, if_pos rfl]
  have s2 : M2 27 2 = M 27 2 := by rw [h27, mw_at, if_neg (by omega), mw_at, if_neg (by omega)]
  have s0 : M2 27 0 = 0 := by rw [h27, mw_at, if_neg (by omega), mw_at, if_pos rfl]; rfl
  obtain ⟨⟨a1, a2⟩, b, ⟨cc1, cc2⟩, d⟩ := h
  have hp : PR M2 30 0 (dQ D (dH D - 1)) := PR.copy (M := mw (mw M 27 0 (iz ((0 : Nat) : Int))) 27 9 (iz ((dH D - 1 : Nat) : Int))) ((cc2 _ (by omega)).same ((mw_ne (by omega)).trans (mw_ne (by omega)))) (hD.2.2.2.2.1 _ (by omega)).1.1 k1
  refine Tot.mk ⟨s9, s0, ⟨⟨s2.trans a1, fun i hi => by show M2 28 i = _; rw [sm 28 (by omega) (by omega)]; exact a2 i hi⟩, hp, ⟨s9, fun j hj => (cc2 j (by have hj : j < dH D - 1 := hj; omega)).same (sm 33 (by omega) (by omega))⟩, fun s hs => ⟨by show M2 35 s = _; rw [sm 35 (by omega) (by omega)]; exact (d s hs).1, fun hf => ((d s hs).2 hf).same (sm 34 (by omega) (by omega))⟩⟩, fun d hd => sm d (by unfold MI at hd; omega) (by unfold MI at hd; omega)⟩
