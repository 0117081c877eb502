theorem a1z (n : Nat) : iz (n : Int) + 1 = iz ((n + 1 : Nat) : Int) := by
  rw [show (1 : Int32) = iz 1 from rfl, iz_add]; rfl
theorem lez {a b : Nat} (ha : a < 2147483648) (hb : b < 2147483648) : (iz (a : Int) ≤ iz (b : Int)) = (a ≤ b) := by
  rw [iz_le (by omega) (by omega) (by omega) (by omega)]
  exact propext ⟨fun h => by omega, fun h => by omega⟩
theorem bz_iff {c d : Prop} [Decidable c] [Decidable d] (h : c ↔ d) : bz c = bz d := by
  by_cases k : c
  · rw [bz_t k, bz_t (h.mp k)]
  · rw [bz_f k, bz_f (fun z => k (h.mpr z))]
section MO
variable {M : Mem} {r b : Nat} {P : Pg} {ρ : Nat → Int}
end MO
