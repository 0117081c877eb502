/-! THE BEST SPLIT -/
def bst (ok : Nat → Prop) [DecidablePred ok] (f : Nat → Int) : Nat → Nat
  | 0 => 9
  | n + 1 => if ok n ∧ (bst ok f n = 9 ∨ f n < f (bst ok f n)) then n else bst ok f n
theorem bst_in (ok : Nat → Prop) [DecidablePred ok] (f : Nat → Int) : ∀ n, n ≤ 9 → bst ok f n = 9 ∨ (bst ok f n < n ∧ ok (bst ok f n))
  | 0, _ => Or.inl rfl
  | n + 1, hn => by
    have ih := bst_in ok f n (by omega)
    unfold bst
    split
    · rename_i c; exact Or.inr ⟨by omega, c.1⟩
    · rcases ih with z | z
      · exact Or.inl z
      · exact Or.inr ⟨by omega, z.2⟩
theorem bst_ex (ok : Nat → Prop) [DecidablePred ok] (f : Nat → Int) {k : Nat} (hk : ok k) : ∀ n, n ≤ 9 → k < n → bst ok f n ≠ 9
  | 0, _, h => absurd h (Nat.not_lt_zero _)
  | n + 1, hn, h => by
    unfold bst
    by_cases e : k = n
    · split
      · omega
      · rename_i c
        intro z
        exact c ⟨by rw [← e]; exact hk, Or.inl z⟩
    · have ih := bst_ex ok f hk n (by omega) (by omega)
      split
      · omega
      · exact ih
theorem bst_cong (ok : Nat → Prop) [DecidablePred ok] {f g : Nat → Int} : ∀ n, n ≤ 9 → (∀ k, k < n → ok k → f k = g k) → bst ok f n = bst ok g n
  | 0, _, _ => rfl
  | n + 1, hn, h => by
    have ih := bst_cong ok (f := f) (g := g) n (by omega) (fun k hk => h k (by omega))
    have hi := bst_in ok g n (by omega)
    unfold bst
    rw [ih]
    by_cases c : ok n
    · rw [h n (by omega) c]
      rcases hi with z | z
      · rw [z]; simp
      · rw [h _ (by omega) z.2]
    · rw [if_neg (fun y => c y.1), if_neg (fun y => c y.1)]
theorem bst_more (ok : Nat → Prop) [DecidablePred ok] (f : Nat → Int) {n : Nat} : ∀ m, n ≤ m → (∀ k, n ≤ k → k < m → ¬ ok k) → bst ok f m = bst ok f n
  | 0, h, _ => by rw [show n = 0 by omega]
  | m + 1, h, hk => by
    by_cases e : n = m + 1
    · rw [e]
    · rw [← bst_more ok f m (by omega) (fun k a b => hk k a (by omega))]
      show (if ok m ∧ _ then m else bst ok f m) = _
      rw [if_neg (fun y => hk m (by omega) (by omega) y.1)]
noncomputable def ahd (P : Pg) : Nat → Nat → Int
  | 0, _ => 0
  | n + 1, k => co P (gB P - 1 - n) k (bst (pkk P (gB P - 1 - n)) (fun j => co P (gB P - 1 - n) k j + ahd P n j) 5) + ahd P n (bst (pkk P (gB P - 1 - n)) (fun j => co P (gB P - 1 - n) k j + ahd P n j) 5)
noncomputable def ag (P : Pg) (b k : Nat) : Int := if gE P 5 = 1 then ahd P (gB P - 1 - b) k else 0
noncomputable def sel (P : Pg) (b k' : Nat) : Nat := bst (pkk P b) (fun j => co P b k' j + ag P b j) 5
noncomputable def sq (P : Pg) : Nat → Nat
  | 0 => sel P 0 0
  | b + 1 => sel P (b + 1) (sq P b)
noncomputable def bef (P : Pg) (b : Nat) : Nat := if b = 0 then 0 else sq P (b - 1)
theorem ahd_rng {P : Pg} (hP : PgW P) : ∀ n, n < gB P → ∀ k, 0 ≤ ahd P n k ∧ ahd P n k ≤ 200 * n
  | 0, _, _ => by unfold ahd; omega
  | n + 1, hn, k => by
    have ih := ahd_rng hP n (by omega) (bst (pkk P (gB P - 1 - n)) (fun j => co P (gB P - 1 - n) k j + ahd P n j) 5)
    have c := co_rng hP (b := gB P - 1 - n) (by omega) k (bst (pkk P (gB P - 1 - n)) (fun j => co P (gB P - 1 - n) k j + ahd P n j) 5)
    unfold ahd
    omega
theorem ag_rng {P : Pg} (hP : PgW P) {b : Nat} (hb : b < gB P) (k : Nat) : 0 ≤ ag P b k ∧ ag P b k ≤ 3200 := by
  have h2 := hP.1.2
  have := ahd_rng hP (gB P - 1 - b) (by omega) k
  unfold ag
  split <;> omega
theorem ag_last {P : Pg} {b : Nat} (hb : b + 1 = gB P) (k : Nat) : ag P b k = 0 := by
  unfold ag
  rw [show gB P - 1 - b = 0 by omega]
  split <;> rfl
theorem ag_next {P : Pg} {b : Nat} (hb : b + 1 < gB P) (hm : gE P 5 = 1) (k : Nat) : ag P b k = co P (b + 1) k (sel P (b + 1) k) + ag P (b + 1) (sel P (b + 1) k) := by
  have e : gB P - 1 - b = (gB P - 1 - (b + 1)) + 1 := by omega
  have e2 : gB P - 1 - (gB P - 1 - (b + 1)) = b + 1 := by omega
  unfold ag
  rw [if_pos hm, if_pos hm, e]
  have hs : sel P (b + 1) k = bst (pkk P (b + 1)) (fun j => co P (b + 1) k j + ahd P (gB P - 1 - (b + 1)) j) 5 := by
    unfold sel ag
    simp only [if_pos hm]
  rw [hs]
  rw [ahd, e2]
section RED
variable {M : Mem} {P : Pg} {b c : Nat}
theorem cf_ex (h : CF M c P b) (hP : PgE P) : ∃ k, k < 5 ∧ pkk P b k := by
  have hz := poss_ne hP (b := b) h.2.1.2.2.2
  have hz : ¬ (mf (fun k => decide (pkk P b k)) = 0) := hz
  rw [mf_zero] at hz
  by_cases e : ∃ k, k < 5 ∧ pkk P b k
  · exact e
  · exact absurd (fun k hk => decide_eq_false (fun y => e ⟨k, hk, y⟩)) hz
theorem sel_ok (h : CF M c P b) (hP : PgE P) (k' : Nat) : sel P b k' < 5 ∧ sel P b k' ≤ nn P b ∧ pkk P b (sel P b k') := by
  obtain ⟨k, hk, hp⟩ := cf_ex h hP
  have h1 := bst_ex (pkk P b) (fun j => co P b k' j + ag P b j) hp 5 (by omega) hk
  rcases bst_in (pkk P b) (fun j => co P b k' j + ag P b j) 5 (by omega) with z | z
  · exact absurd z h1
  · exact ⟨z.1, z.2.1, z.2⟩
theorem chordAt_eq (h : M 7 4 = iz (gB P)) (hP : PgD P) {v : Int} (v1 : -2147483648 ≤ v) (v2 : v < 2147483648) : f_X2_chordAt (iz v) M = some (if 0 ≤ v ∧ v < gB P then v.toNat else 16, M) := by
  unfold f_X2_chordAt
  have h2 := hP.2
  rw [h]
  simp (disch := omega) only [iz_lit, iz_neg, iz_add, iz_sub, iz_mul, iz_lt, iz_le, iz_eq, iz_inb, iz_cl, bz_0, ob_some]
  by_cases h1 : v < 0
  · rw [if_pos h1, if_neg (by omega)]
  · rw [if_neg h1]
    by_cases h3 : (gB P : Int) ≤ v
    · rw [if_pos h3, if_neg (by omega)]
    · rw [if_neg h3, if_pos (by omega), if_pos (by omega)]
theorem chordAt_in (h : M 7 4 = iz (gB P)) (hP : PgD P) (hb : b < gB P) : f_X2_chordAt (iz b) M = some (b, M) := by
  have h2 := hP.2
  rw [chordAt_eq h hP (by omega) (by omega), if_pos (by omega)]
  congr 2
theorem chordAt_before (h : M 7 4 = iz (gB P)) (hP : PgD P) (hb : b < gB P) : f_X2_chordAt (iz ((b : Int) - 1)) M = some (ixB b, M) := by
  have h2 := hP.2
  rw [chordAt_eq h hP (by omega) (by omega)]
  unfold ixB
  by_cases e : b = 0
  · rw [if_neg (by omega), if_pos e]
  · rw [if_pos (by omega), if_neg e]
    congr 2
    omega
theorem isPossible_eq (h : CF M c P b) {k : Nat} (hk : k < 5) : f_X0_isPossible c (iz k) M = some (bz (pkk P b k), M) := by
  unfold f_X0_isPossible
  rw [h.2.2.2.1]
  have e : (((pkm P b (rho P b) >>> (iz k &&& 31)) &&& 1) = 1) = (decide (pkk P b k) = true) := mf_bit (fun k => decide (pk P b (rho P b) k)) hk
  by_cases c0 : pkk P b k
  · rw [if_pos (by rw [e]; exact decide_eq_true c0), bz_t c0]; rfl
  · rw [if_neg (by rw [e]; exact fun z => c0 (of_decide_eq_true z)), bz_f c0]; rfl
theorem bestSplit_eq (h : RC M P) (hP : PgW P) (hb : b < gB P) {k' : Nat} (hk' : okB P b k') (ha : ∀ k, k < 5 → pkk P b k → M (11 + b) k = iz (ag P b k)) : f_X2_bestSplit (iz b) (ixB b) (iz k') M = some (iz (sel P b k'), M) := by
  unfold f_X2_bestSplit
  have h2 := hP.1.2
  have hF := h.2.1 b hb
  rw [chordAt_in h.1 hP.1 hb, ob_some, if_pos (by omega)]
  refine Tot.eq ?_
  rw [show (1000000 : Int32) = iz 1000000 from rfl, show (0 : Int32) = iz ((0 : Nat) : Int) from rfl]
  refine up3_tot 5 (fun k v5 v6 M' => M' = M ∧ (bst (pkk P b) (fun j => co P b k' j + ag P b j) k = 9 → v5 = iz ((0 : Nat) : Int) ∧ v6 = iz 1000000) ∧ (bst (pkk P b) (fun j => co P b k' j + ag P b j) k ≠ 9 → v5 = iz (bst (pkk P b) (fun j => co P b k' j + ag P b j) k) ∧ v6 = iz (co P b k' (bst (pkk P b) (fun j => co P b k' j + ag P b j) k) + ag P b (bst (pkk P b) (fun j => co P b k' j + ag P b j) k)))) ?_ ?_ 9999 0 _ _ M (by omega) ⟨rfl, fun _ => ⟨rfl, rfl⟩, fun z => absurd rfl z⟩ (by omega)
  · intro K k v5 v6 M' hk ⟨e1, e2, e3⟩ hK
    subst e1
    unfold f_X2_bestSplit_b17
    rw [isPossible_eq hF hk, ob_some]
    simp (disch := omega) only [iz_lit, iz_neg, iz_add, iz_sub, iz_mul, iz_lt, iz_le, iz_eq, iz_inb, iz_cl, bz_0, ob_some]
    rw [if_neg (by omega)]
    have hst : bst (pkk P b) (fun j => co P b k' j + ag P b j) (k + 1) = if pkk P b k ∧ (bst (pkk P b) (fun j => co P b k' j + ag P b j) k = 9 ∨ co P b k' k + ag P b k < co P b k' (bst (pkk P b) (fun j => co P b k' j + ag P b j) k) + ag P b (bst (pkk P b) (fun j => co P b k' j + ag P b j) k)) then k else bst (pkk P b) (fun j => co P b k' j + ag P b j) k := rfl
    by_cases c0 : pkk P b k
    · rw [if_neg (fun z => z c0), ccosts_eq h hP hb c0.1 hk', ob_some]
      have a1 := co_rng hP hb k' k
      have a2 := ag_rng hP hb k
      rw [show ((b : Int)).toNat = b by omega, show ((k : Int)).toNat = k by omega, ha k hk c0]
      simp (disch := omega) only [iz_lit, iz_neg, iz_add, iz_sub, iz_mul, iz_lt, iz_le, iz_eq, iz_inb, iz_cl, bz_0, ob_some]
      rw [if_pos (by omega), if_pos (by omega)]
      have take : bst (pkk P b) (fun j => co P b k' j + ag P b j) (k + 1) = k → Tot (K (iz k) (iz (co P b k' k + ag P b k)) (iz ((k : Int) + 1)) M') (fun r => r = (iz (sel P b k'), M')) := fun hs => by
        refine hK _ _ M' ⟨rfl, fun z => by omega, fun z => ?_⟩
        rw [hs]
        exact ⟨rfl, rfl⟩
      by_cases c1 : bst (pkk P b) (fun j => co P b k' j + ag P b j) k = 9
      · obtain ⟨rfl, rfl⟩ := e2 c1
        simp (disch := omega) only [iz_lit, iz_neg, iz_add, iz_sub, iz_mul, iz_lt, iz_le, iz_eq, iz_inb, iz_cl, bz_0, ob_some]
        rw [if_neg (by omega)]
        exact take (by rw [hst, if_pos ⟨c0, Or.inl c1⟩])
      · obtain ⟨rfl, rfl⟩ := e3 c1
        have b1 := co_rng hP hb k' (bst (pkk P b) (fun j => co P b k' j + ag P b j) k)
        have b2 := ag_rng hP hb (bst (pkk P b) (fun j => co P b k' j + ag P b j) k)
        simp (disch := omega) only [iz_lit, iz_neg, iz_add, iz_sub, iz_mul, iz_lt, iz_le, iz_eq, iz_inb, iz_cl, bz_0, ob_some]
        by_cases c2 : co P b k' (bst (pkk P b) (fun j => co P b k' j + ag P b j) k) + ag P b (bst (pkk P b) (fun j => co P b k' j + ag P b j) k) ≤ co P b k' k + ag P b k
        · rw [if_pos c2]
          have hs : bst (pkk P b) (fun j => co P b k' j + ag P b j) (k + 1) = bst (pkk P b) (fun j => co P b k' j + ag P b j) k := by
            rw [hst, if_neg]
            intro z
            rcases z.2 with y | y
            · exact c1 y
            · omega
          refine hK _ _ M' ⟨rfl, fun z => absurd (hs ▸ z) c1, fun z => ?_⟩
          rw [hs]
          exact ⟨rfl, rfl⟩
        · rw [if_neg c2]
          exact take (by rw [hst, if_pos ⟨c0, Or.inr (by omega)⟩])
    · rw [if_pos c0]
      have hs : bst (pkk P b) (fun j => co P b k' j + ag P b j) (k + 1) = bst (pkk P b) (fun j => co P b k' j + ag P b j) k := by
        rw [hst, if_neg (fun z => c0 z.1)]
      refine hK _ _ M' ⟨rfl, fun z => e2 (hs ▸ z), fun z => ?_⟩
      rw [hs]
      exact e3 (fun y => z (hs.trans y))
  · intro K v5 v6 M' ⟨e1, e2, e3⟩
    subst e1
    unfold f_X2_bestSplit_b17
    simp (disch := omega) only [iz_lit, iz_neg, iz_add, iz_sub, iz_mul, iz_lt, iz_le, iz_eq, iz_inb, iz_cl, bz_0, ob_some]
    rw [if_pos (by omega)]
    obtain ⟨k, hk, hp⟩ := cf_ex hF hP.2.1
    have h9 := bst_ex (pkk P b) (fun j => co P b k' j + ag P b j) hp 5 (by omega) hk
    exact Tot.mk (by rw [(e3 h9).1]; rfl)
end RED
