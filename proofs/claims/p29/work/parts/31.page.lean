theorem l8 (n : Nat) : (8 : Int32) + iz (n : Int) = iz ((8 + n : Nat) : Int) := by
  rw [show (8 : Int32) = iz 8 from rfl, iz_add]
  congr 1
theorem c6 : Int32.toNatClampNeg 6 = 6 := by decide
theorem c0 : Int32.toNatClampNeg 0 = 0 := by decide
theorem c1 : Int32.toNatClampNeg 1 = 1 := by decide
theorem c2 : Int32.toNatClampNeg 2 = 2 := by decide
theorem c3 : Int32.toNatClampNeg 3 = 3 := by decide
theorem c4 : Int32.toNatClampNeg 4 = 4 := by decide
theorem c5 : Int32.toNatClampNeg 5 = 5 := by decide
section MO
variable {M : Mem} {r b : Nat} {P : Pg} {ρ : Nat → Int}
end MO
