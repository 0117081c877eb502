section MO
variable {M : Mem} {r b : Nat} {P : Pg} {ρ : Nat → Int}
theorem ltz {a b : Nat} (ha : a < 2147483648) (hb : b < 2147483648) : (iz (a : Int) < iz (b : Int)) = (a < b) := by
  rw [iz_lt (by omega) (by omega) (by omega) (by omega)]
  exact propext ⟨fun h => by omega, fun h => by omega⟩
end MO
