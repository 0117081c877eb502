theorem CRel.rd {M M' : Mem} {D : Ds} (h : CRel M D) (e1 : M' 1 1 = M 1 1) (o : Off RT M M') : CRel M' D := by
  have i1 := iSt_eq 1
  have ne : ∀ d, d ≠ 1 → (d < 47 ∨ 50 ≤ d) → M' d = M d := fun d hd h2 => o d (by unfold RT RSt; omega)
  obtain ⟨⟨a1, a2⟩, b, ⟨nx, c1, c2, c3, c4⟩, d, e⟩ := h
  exact ⟨⟨e1.trans a1, fun i hi => by rw [ne 2 (by omega) (by omega)]; exact a2 i hi⟩, b.same (fun d x y => ne d (by have := iSt_eq 0; omega) (by have := iSt_eq 0; omega)), ⟨nx, c1, by rw [ne 3 (by omega) (by omega)]; exact c2, by rw [ne 3 (by omega) (by omega)]; exact c3, fun j hj => (c4 j hj).same (fun d x y => ne d (by have := iSt_eq (4 + (nx + 14 - dH D + j) % 14); omega) (by have := iSt_eq (4 + (nx + 14 - dH D + j) % 14); omega))⟩, fun s hs => ⟨by rw [ne 6 (by omega) (by omega)]; exact (d s hs).1, fun hf => ((d s hs).2 hf).same (fun d x y => ne d (by have := iSt_eq (2 + s); omega) (by have := iSt_eq (2 + s); omega))⟩, e.same (fun d x y => ne d (by omega) (by omega))⟩
theorem CI_RT (d : Nat) (h : RT d) : CI d := by
  unfold RT RSt at h
  have := iSt_eq 1
  unfold CI
  omega
theorem TOk_D {D : Ds} (hD : DOk D) : TOk D.1 := ⟨hD.1, hD.2.1⟩
def dLoad (D : Ds) : Ds := (D.1, rdP D.1, (0, dQ D), (fun _ => false, dS D))
theorem dLoad_Ok {D : Ds} (hD : DOk D) (h : rdE D.1 = -9) : DOk (dLoad D) :=
  ⟨hD.1, hD.2.1, rdP_Ok (rdE_hOk h), Nat.zero_le _, fun j hj => absurd hj (Nat.not_lt_zero j), fun s _ hf => absurd (show false = true from hf) (by decide)⟩
