theorem bst_cnt (f : Nat → Bool) {n : Nat} (hn : n ≤ 5) (hz : ∀ k, n ≤ k → f k = false) : sg (fun k => b01 (f k)) n = nf f := by
  rw [← sg_nf]
  exact (sg_up (fun i hi => by show b01 (f i) = 0; rw [hz i hi]; rfl) 5 hn).symm
