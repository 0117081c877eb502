theorem sg_up {f : Nat → Int} {n : Nat} (h : ∀ i, n ≤ i → f i = 0) : ∀ m, n ≤ m → sg f m = sg f n
  | 0, hm => by rw [show n = 0 by omega]
  | m + 1, hm => by
    by_cases e : n = m + 1
    · rw [e]
    · rw [sg, h m (by omega), Int.add_zero]
      exact sg_up h m (by omega)
theorem sg_nf (f : Nat → Bool) : sg (fun s => b01 (f s)) 5 = nf f := by
  simp only [sg, nf]
  omega
