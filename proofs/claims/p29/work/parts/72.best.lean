/-! THE BEST TRANSPOSITION -/
def byI (i : Nat) : Int := if i % 2 = 1 then (((i + 1) / 2 : Nat) : Int) else -((i / 2 : Nat) : Int)
noncomputable def btS (P : Pg) (s : Nat) (d : Int) (x : Int × Int) : Int × Int := if canMv P s d then (if nWhole (pmov P s d) 0 < x.2 then (d, nWhole (pmov P s d) 0) else x) else x
noncomputable def bt (P : Pg) (s : Nat) : Nat → Int × Int
  | 0 => (0, nWhole P 0)
  | n + 1 => btS P s (byI (n + 1)) (bt P s n)
theorem bt_rng {P : Pg} (h : PgOk P) (s : Nat) : ∀ n, 0 ≤ (bt P s n).2 ∧ (bt P s n).2 ≤ 3200
  | 0 => nWhole0_rng h.1
  | n + 1 => by
    have ih := bt_rng h s n
    show 0 ≤ (btS P s (byI (n + 1)) (bt P s n)).2 ∧ (btS P s (byI (n + 1)) (bt P s n)).2 ≤ 3200
    unfold btS
    by_cases c : canMv P s (byI (n + 1))
    · rw [if_pos c]
      by_cases d : nWhole (pmov P s (byI (n + 1))) 0 < (bt P s n).2
      · rw [if_pos d]; exact nWhole0_rng (pmov_Ok h c).1
      · rw [if_neg d]; exact ih
    · rw [if_neg c]; exact ih
theorem pmov0 (P : Pg) (s : Nat) : pmov P s 0 = P := by
  have : (fun s' b => if s' = s ∧ pit (gC P s' b) then gC P s' b + 0 else gC P s' b) = gC P := by
    funext s' b
    rw [Int.add_zero, ite_self]
  show (gE P, gS P, gB P, (fun s' b => if s' = s ∧ pit (gC P s' b) then gC P s' b + 0 else gC P s' b)) = P
  rw [this]
theorem byI_rng {i : Nat} (h : i ≤ 120) : -60 ≤ byI i ∧ byI i ≤ 60 := by
  unfold byI
  by_cases c : i % 2 = 1
  · rw [if_pos c]; omega
  · rw [if_neg c]; omega
