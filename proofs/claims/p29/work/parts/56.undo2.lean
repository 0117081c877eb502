theorem c_back {M : Mem} {D : Ds} (h : CRel M D) (hD : DOk D) (h0 : 0 < dH D) : Tot (f_X1_takeBack 0 M) (fun x => x.1 = iz (dH D - 1 : Nat) ∧ CRel x.2 (dBack D) ∧ Off CI M x.2) := by
  have h14 := hD.2.2.2.1
  obtain ⟨⟨a1, a2⟩, b, ⟨nx, c1, c2, c3, c4⟩, d, e⟩ := h
  unfold f_X1_takeBack
  have l0 : ¬ (iz (dH D : Int) ≤ 0) := by rw [show (0 : Int32) = iz ((0 : Nat) : Int) from rfl, lez (by omega) (by omega)]; omega
  rw [c3, if_neg l0, c2, backN c1]
  have e1 : mw M 3 1 (iz (((nx + 13) % 14 : Nat) : Int)) 3 1 = iz (((nx + 13) % 14 : Nat) : Int) := by rw [mw_at, if_pos rfl]
  rw [e1, if_pos (inb_n (n := (nx + 13) % 14) (by omega) (by omega)), cl_n (n := (nx + 13) % 14) (by omega)]
  have hq : StRep (mw M 3 1 (iz (((nx + 13) % 14 : Nat) : Int))) (4 + (nx + 13) % 14) (dQ D (dH D - 1)) := by
    have := c4 (dH D - 1) (by omega)
    rw [show (nx + 14 - dH D + (dH D - 1)) % 14 = (nx + 13) % 14 by omega] at this
    exact this.same (fun d x y => mw_ne (by have := iSt_eq (4 + (nx + 13) % 14); omega))
  refine Tot.ob ((take_rep (q := 0) (r := 4 + (nx + 13) % 14) (by omega) hq (hD.2.2.2.2.1 _ (by omega)).1.1).mono ?_)
  intro ⟨_, M2⟩ ⟨hs, o⟩
  have hs : StRep M2 0 (dQ D (dH D - 1)) := hs
  have o : Off (RSt 0) (mw M 3 1 (iz (((nx + 13) % 14 : Nat) : Int))) M2 := o
  have i0 := iSt_eq 0
  have h3 : M2 3 = mw M 3 1 (iz (((nx + 13) % 14 : Nat) : Int)) 3 := o 3 (by unfold RSt; omega)
  have q2 : M2 3 2 = iz (dH D) := by rw [h3, mw_at, if_neg (by omega)]; exact c3
  have q1 : M2 3 1 = iz (((nx + 13) % 14 : Nat) : Int) := by rw [h3, mw_at, if_pos rfl]
  have fin : ∀ M3 : Mem, M3 3 1 = iz (((nx + 13) % 14 : Nat) : Int) → M3 3 2 = iz ((dH D - 1 : Nat) : Int) → (∀ d, d ≠ 3 → M3 d = M2 d) → CRel M3 (dBack D) ∧ Off CI M M3 := fun M3 x1 x2 x3 => by
    have sm : ∀ d, d ≠ 3 → (d < 44 ∨ 47 ≤ d) → M3 d = M d := fun d y z => (x3 d y).trans ((o d (by unfold RSt; omega)).trans (mw_ne y))
    refine ⟨⟨⟨by rw [sm 1 (by omega) (by omega)]; exact a1, fun i hi => by rw [sm 2 (by omega) (by omega)]; exact a2 i hi⟩, hs.same (fun d y z => x3 d (by omega)), ⟨(nx + 13) % 14, by omega, x1, x2, fun j hj => ?_⟩, fun s hs => ⟨by rw [sm 6 (by omega) (by omega)]; exact (d s hs).1, fun hf => ((d s hs).2 hf).same (fun d y z => sm d (by have := iSt_eq (2 + s); omega) (by have := iSt_eq (2 + s); omega))⟩, e.same (fun d y z => sm d (by omega) (by omega))⟩, fun d hd => sm d (by unfold CI at hd; omega) (by unfold CI at hd; omega)⟩
    have hj : j < dH D - 1 := hj
    show StRep M3 (4 + ((nx + 13) % 14 + 14 - (dH D - 1) + j) % 14) (dQ D j)
    rw [show ((nx + 13) % 14 + 14 - (dH D - 1) + j) % 14 = (nx + 14 - dH D + j) % 14 by omega]
    exact (c4 j (by omega)).same (fun d y z => sm d (by have := iSt_eq (4 + (nx + 14 - dH D + j) % 14); omega) (by have := iSt_eq (4 + (nx + 14 - dH D + j) % 14); omega))
  show Tot (some (mw M2 3 2 (M2 3 2 - 1) 3 2, mw M2 3 2 (M2 3 2 - 1))) _
  rw [q2, pm1 _ h0]
  have w1 : mw M2 3 2 (iz ((dH D - 1 : Nat) : Int)) 3 1 = iz (((nx + 13) % 14 : Nat) : Int) := by rw [mw_at, if_neg (by omega)]; exact q1
  have w2 : mw M2 3 2 (iz ((dH D - 1 : Nat) : Int)) 3 2 = iz ((dH D - 1 : Nat) : Int) := by rw [mw_at, if_pos rfl]
  have w := fin _ w1 w2 (fun d hd => mw_ne hd)
  exact Tot.mk ⟨w2, w.1, w.2⟩
