theorem a1z (n : Nat) : iz (n : Int) + 1 = iz ((n + 1 : Nat) : Int) := by
  rw [show (1 : Int32) = iz 1 from rfl, iz_add]; rfl
theorem lez {a b : Nat} (ha : a < 2147483648) (hb : b < 2147483648) : (iz (a : Int) ≤ iz (b : Int)) = (a ≤ b) := by
  rw [iz_le (by omega) (by omega) (by omega) (by omega)]
  exact propext ⟨fun h => by omega, fun h => by omega⟩
section MO
variable {M : Mem} {r b : Nat} {P : Pg} {ρ : Nat → Int}
end MO
