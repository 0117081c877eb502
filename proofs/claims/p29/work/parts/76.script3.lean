noncomputable def rsg (P : Pg) (g : Nat) : Bool × Pg := rsq P (g / 10000) (g / 1000 % 10) (g / 100 % 10) (g % 100)
noncomputable def rsA (N n : Nat) : Nat → Pg → Int
  | 0, _ => -9
  | k + 1, P => if (rsg P (N / 100000 ^ k % 100000)).1 = true then rsA N n k (rsg P (N / 100000 ^ k % 100000)).2 else ((n - (k + 1) : Nat) : Int)
theorem groupFromEnd_eq {N : Nat} (hN : N < 9223372036854775808) {k : Nat} (hk : k ≤ 3) (M : Mem) : f_X5_groupFromEnd (jn N) (iz k) M = some (jn (N / 100000 ^ k), M) := by
  unfold f_X5_groupFromEnd
  refine Tot.eq ?_
  rw [show (0 : Int32) = iz ((0 : Nat) : Int) from rfl]
  refine up2_tot k (fun i x M' => M' = M ∧ x = jn (N / 100000 ^ i)) ?_ ?_ 9999 0 _ M (by omega) ⟨rfl, by rw [Nat.pow_zero, Nat.div_one]⟩ (by omega)
  · intro K i x M' hi ⟨e1, e2⟩ hK
    subst e1 e2
    unfold f_X5_groupFromEnd_b5
    have hle : N / 100000 ^ i ≤ N := Nat.div_le_self _ _
    rw [if_neg (by rw [lez (by omega) (by omega)]; omega), a1z, show (100000 : Int64) = jn 100000 from rfl, jn_div (by omega) (by omega) (by omega), Nat.div_div_eq_div_mul, ← Nat.pow_succ]
    exact hK _ _ ⟨rfl, rfl⟩
  · intro K x M' ⟨e1, e2⟩
    subst e1 e2
    unfold f_X5_groupFromEnd_b5
    rw [if_pos (Int32.le_refl _)]
    exact Tot.mk rfl
theorem pow5 {k : Nat} (h : k ≤ 3) : 0 < 100000 ^ k ∧ 100000 ^ k ≤ 1000000000000000 := by
  have : k = 0 ∨ k = 1 ∨ k = 2 ∨ k = 3 := by omega
  rcases this with rfl | rfl | rfl | rfl <;> decide
