section MP
variable {M : Mem} {r b : Nat} {P : Pg}
theorem pm1 (n : Nat) (hn : 0 < n) : iz (n : Int) - 1 = iz ((n - 1 : Nat) : Int) := by
  rw [show (1 : Int32) = iz 1 from rfl, iz_sub]
  congr 1
  omega
end MP
