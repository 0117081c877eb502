theorem backN {nx : Nat} (h : nx < 14) : iz (nx : Int) + 14 - 1 - (iz (nx : Int) + 14 - 1) / 14 * 14 = iz (((nx + 13) % 14 : Nat) : Int) := by
  rw [show iz (nx : Int) + 14 - 1 = iz ((nx : Int) + 14 - 1) by rw [show (14 : Int32) = iz 14 from rfl, show (1 : Int32) = iz 1 from rfl, iz_add, iz_sub], show (14 : Int32) = iz 14 from rfl, iz_div (by omega) (by omega) (by omega) (by omega), iz_mul, iz_sub]
  congr 1
  omega
theorem dBack_Ok {D : Ds} (h : DOk D) (h0 : 0 < dH D) : DOk (dBack D) :=
  ⟨h.1, h.2.1, h.2.2.2.2.1 _ (by omega), by show dH D - 1 ≤ 14; have := h.2.2.2.1; omega, fun j hj => h.2.2.2.2.1 j (by have hj : j < dH D - 1 := hj; omega), h.2.2.2.2.2⟩
