section MP
variable {M : Mem} {r b : Nat} {P : Pg}
/-- whether a value may be written, as both see it -/
abbrev canW (P : Pg) (s b : Nat) (v : Int) : Prop := v ≠ 99 ∨ (0 < b ∧ gC P s (b - 1) ≠ -9)
/-- a cell is written, loose holds become rests -/
def pwr (P : Pg) (s b : Nat) (v : Int) : Pg := pmend (pput P s b (if v < 0 then -9 else v))
theorem pwr_Ok (hP : PgW P) {s b : Nat} {v : Int} (hv : v < 0 ∨ v = 99 ∨ (0 ≤ v ∧ v ≤ 60)) : PgOk (pwr P s b v) := by
  refine pmend_Ok (pput_W hP s b ?_)
  by_cases c : v < 0
  · rw [if_pos c]; exact Or.inl rfl
  · rw [if_neg c]
    unfold cOk
    omega
end MP
