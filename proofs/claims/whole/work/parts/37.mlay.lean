theorem cut_sum {f : Nat → Bool} {S : Nat} (h1 : 1 ≤ S) (h4 : S ≤ 4) (hz : ∀ s, S ≤ s → f s = false) : sg (fun s => if f s = true then 10 else 0) S = 10 * nf f := by
  have t : ∀ s, S ≤ s → b01 (f s) = 0 := fun s hs => by unfold b01; rw [hz s hs]; rfl
  have u : ∀ s, (if f s = true then (10 : Int) else 0) = 10 * b01 (f s) := fun s => by
    unfold b01
    cases f s <;> rfl
  unfold nf
  rcases (show S = 1 ∨ S = 2 ∨ S = 3 ∨ S = 4 by omega) with rfl | rfl | rfl | rfl
  · have a1 := t 1 (by omega); have a2 := t 2 (by omega); have a3 := t 3 (by omega); have a4 := t 4 (by omega)
    simp only [sg, u]; omega
  · have a2 := t 2 (by omega); have a3 := t 3 (by omega); have a4 := t 4 (by omega)
    simp only [sg, u]; omega
  · have a3 := t 3 (by omega); have a4 := t 4 (by omega)
    simp only [sg, u]; omega
  · have a4 := t 4 (by omega)
    simp only [sg, u]; omega
theorem cutB_out {P : Pg} {b k' k s : Nat} (hs : gS P ≤ s) : cutB P b k' k s = false := by
  unfold cutB
  rw [decide_eq_false (fun z : hd P b s => by have := z.1; omega)]
  rfl
section MO
variable {M : Mem} {r b : Nat} {P : Pg}
theorem costOf_eq (h : PR M r 0 P) (hL : MLs M P) (hP : PgOk P) (hl : lnA r = 72) (hb : b < gB P) {k k' : Nat} (hk : k ≤ nn P b) (hk' : okB P b k') : f_X6_costOf r (iz b) (iz k') (iz k) M = some (iz (co P b k' k), M) := by
  unfold f_X6_costOf
  have h1 := hP.1.1.1
  have i6 : inb 6 (lnA r) := by rw [hl]; decide
  refine Tot.eq ?_
  rw [show (0 : Int32) = iz ((0 : Nat) : Int) from rfl]
  refine up2_tot 2 (fun n v M' => M' = M ∧ v = iz (sg (fun hh => mv P b k' hh k + (if ro P b hh k then 5 else 0)) n)) ?_ ?_ 9999 0 _ M (by omega) ⟨rfl, rfl⟩ (by omega)
  · intro K n v M' hn ⟨e1, e2⟩ hK
    subst e1 e2
    unfold f_X6_costOf_b6
    have le2 : ¬ ((2 : Int32) ≤ iz (n : Int)) := by rw [show (2 : Int32) = iz ((2 : Nat) : Int) from rfl, lez (by omega) (by omega)]; omega
    rw [if_neg le2, mmove_eq hL hP.1 hb hn hk hk', ob_some, misRolled_eq h (hL b hb) hP.1 hl hb hn hk, ob_some]
    unfold f_X6_costOf_b42
    rw [a1z]
    by_cases c : ro P b n k
    · rw [if_neg (by rw [bz_t c]; decide), show (5 : Int32) = iz 5 from rfl, iz_add, iz_add]
      refine hK _ _ ⟨rfl, ?_⟩
      rw [sg, if_pos c]
    · rw [if_pos (by rw [bz_f c]; rfl), show (0 : Int32) = iz 0 from rfl, iz_add, iz_add]
      refine hK _ _ ⟨rfl, ?_⟩
      rw [sg, if_neg c]
  · intro K v M' ⟨e1, e2⟩
    subst e1 e2
    unfold f_X6_costOf_b6
    rw [if_pos (by decide)]
    unfold f_X6_costOf_b52
    rw [show (0 : Int32) = iz ((0 : Nat) : Int) from rfl]
    refine up2_tot (gS P) (fun s v M'' => M'' = M' ∧ v = iz (sg (fun hh => mv P b k' hh k + (if ro P b hh k then 5 else 0)) 2 + sg (fun s => if cutB P b k' k s = true then 10 else 0) s)) ?_ ?_ 9999 0 _ M' (by omega) ⟨rfl, by rw [show sg (fun s => if cutB P b k' k s = true then (10 : Int) else 0) 0 = 0 from rfl, Int.add_zero]⟩ (by omega)
    · intro K2 s v M'' hs ⟨e1, e2⟩ hK2
      subst e1 e2
      unfold f_X6_costOf_b55
      rw [if_pos i6, c6, h.S, if_neg (by rw [lez (by omega) (by omega)]; omega), isCut_eq h hL hP hl hb hs hk hk', ob_some, a1z]
      by_cases c : cutB P b k' k s = true
      · rw [if_neg (by rw [bz_t c]; decide), show (10 : Int32) = iz 10 from rfl, iz_add]
        refine hK2 _ _ ⟨rfl, ?_⟩
        rw [sg.eq_2 _ s, if_pos c, Int.add_assoc]
      · rw [if_pos (by rw [bz_f c]; rfl), show (0 : Int32) = iz 0 from rfl, iz_add]
        refine hK2 _ _ ⟨rfl, ?_⟩
        rw [sg.eq_2 _ s, if_neg c, Int.add_assoc]
    · intro K2 v M'' ⟨e1, e2⟩
      subst e1 e2
      unfold f_X6_costOf_b55
      rw [if_pos i6, c6, h.S, if_pos (Int32.le_refl _), cut_sum (f := cutB P b k' k) h1.1 h1.2 (fun s hs => cutB_out hs)]
      refine Tot.mk ?_
      congr 2
      unfold co nro
      simp only [sg]
      repeat' split
      all_goals omega
theorem can_eq (hL : ML M P b) (hP : PgD P) (hb : b < gB P) {k : Nat} (hk : k < 5) : f_X6_can (iz b) (iz k) M = some (bz (pkk P b k), M) := by
  unfold f_X6_can
  have h2 := hP.2
  rw [if_pos (inb_n (n := b) (by omega) (by omega)), cl_n (n := b) (by omega), hL.2.2]
  have e : (((pkm P b (rho P b) >>> (iz k &&& 31)) &&& 1) = 1) = (decide (pkk P b k) = true) := mf_bit (fun k => decide (pk P b (rho P b) k)) hk
  by_cases c0 : pkk P b k
  · rw [if_pos (by rw [e]; exact decide_eq_true c0), bz_t c0]; rfl
  · rw [if_neg (by rw [e]; exact fun z => c0 (of_decide_eq_true z)), bz_f c0]; rfl
theorem msel_ok (h : ML M P b) (hP : PgE P) (k' : Nat) : sel P b k' < 5 ∧ sel P b k' ≤ nn P b ∧ pkk P b (sel P b k') ∧ bst (pkk P b) (fun j => co P b k' j + ag P b j) 5 ≠ 9 := by
  have hz := poss_ne hP (b := b) h.2.1.2.2
  have hz : ¬ (mf (fun k => decide (pkk P b k)) = 0) := hz
  rw [mf_zero] at hz
  have he : ∃ k, k < 5 ∧ pkk P b k := by
    by_cases e : ∃ k, k < 5 ∧ pkk P b k
    · exact e
    · exact absurd (fun k hk => decide_eq_false (fun y => e ⟨k, hk, y⟩)) hz
  obtain ⟨k, hk, hp⟩ := he
  have h1 := bst_ex (pkk P b) (fun j => co P b k' j + ag P b j) hp 5 (by omega) hk
  rcases bst_in (pkk P b) (fun j => co P b k' j + ag P b j) 5 (by omega) with z | z
  · exact absurd z h1
  · exact ⟨z.1, z.2.1, z.2, h1⟩
theorem cheapest_eq (h : PR M r 0 P) (hL : MLs M P) (hP : PgOk P) (hl : lnA r = 72) (hb : b < gB P) {k' : Nat} (hk' : okB P b k') {w : Int32} (hw : (w = 1 ∧ gE P 5 = 1 ∧ ∀ k, k ≤ nn P b → M 42 (5 * b + k) = iz (ag P b k)) ∨ (w = 0 ∧ gE P 5 ≠ 1)) : f_X6_cheapest r (iz b) (iz k') w M = some (iz (sel P b k'), M) := by
  unfold f_X6_cheapest
  have h2 := hP.1.1.2
  have n4 := mnn4 (hL b hb)
  have hn9 := (msel_ok (hL b hb) hP.1.2.1 k').2.2.2
  refine Tot.eq ?_
  rw [show (-9 : Int32) = iz (-9) from rfl, show (0 : Int32) = iz ((0 : Nat) : Int) from rfl]
  refine up3_tot (nn P b + 1) (fun k v5 v6 M' => M' = M ∧ (bst (pkk P b) (fun j => co P b k' j + ag P b j) k = 9 → v5 = iz (-9)) ∧ (bst (pkk P b) (fun j => co P b k' j + ag P b j) k ≠ 9 → v5 = iz (bst (pkk P b) (fun j => co P b k' j + ag P b j) k) ∧ v6 = iz (co P b k' (bst (pkk P b) (fun j => co P b k' j + ag P b j) k) + ag P b (bst (pkk P b) (fun j => co P b k' j + ag P b j) k)))) ?_ ?_ 9999 0 _ _ M (by omega) ⟨rfl, fun _ => rfl, fun z => absurd rfl z⟩ (by omega)
  · intro K k v5 v6 M' hk ⟨e1, e2, e3⟩ hK
    subst e1
    unfold f_X6_cheapest_b10
    have n0 : M' 39 b = iz (nn P b) := (hL b hb).2.1.1
    rw [if_pos (inb_n (n := b) (by omega) (by omega)), cl_n (n := b) (by omega), n0, if_neg (by rw [ltz (by omega) (by omega)]; omega), can_eq (hL b hb) hP.1.1 hb (by omega), ob_some, a1z]
    have hst : bst (pkk P b) (fun j => co P b k' j + ag P b j) (k + 1) = if pkk P b k ∧ (bst (pkk P b) (fun j => co P b k' j + ag P b j) k = 9 ∨ co P b k' k + ag P b k < co P b k' (bst (pkk P b) (fun j => co P b k' j + ag P b j) k) + ag P b (bst (pkk P b) (fun j => co P b k' j + ag P b j) k)) then k else bst (pkk P b) (fun j => co P b k' j + ag P b j) k := rfl
    by_cases c0 : pkk P b k
    · rw [if_neg (by rw [bz_t c0]; decide), costOf_eq h hL hP hl hb c0.1 hk', ob_some]
      have a1 := co_rng hP.1 hb k' k
      have a2 := ag_rng hP.1 hb k
      have main : ∀ a : Int, a = ag P b k → Tot (f_X6_cheapest_b60 r (iz b) (iz k') w v5 v6 (iz k) K (iz a) (iz (co P b k' k)) M') (fun x => x = (iz (sel P b k'), M')) := fun a ha => by
        subst ha
        unfold f_X6_cheapest_b60 f_X6_cheapest_b77 f_X6_cheapest_b82 f_X6_cheapest_b96
        rw [iz_add, a1z]
        have take : bst (pkk P b) (fun j => co P b k' j + ag P b j) (k + 1) = k → Tot (K (iz k) (iz (co P b k' k + ag P b k)) (iz ((k + 1 : Nat) : Int)) M') (fun r => r = (iz (sel P b k'), M')) := fun hs => by
          refine hK _ _ M' ⟨rfl, fun z => by omega, fun z => ?_⟩
          rw [hs]
          exact ⟨rfl, rfl⟩
        by_cases c1 : bst (pkk P b) (fun j => co P b k' j + ag P b j) k = 9
        · rw [if_pos (show v5 = -9 from e2 c1), if_neg (by decide), if_neg (by decide)]
          exact take (by rw [hst, if_pos ⟨c0, Or.inl c1⟩])
        · obtain ⟨rfl, rfl⟩ := e3 c1
          have b1 := co_rng hP.1 hb k' (bst (pkk P b) (fun j => co P b k' j + ag P b j) k)
          have b2 := ag_rng hP.1 hb (bst (pkk P b) (fun j => co P b k' j + ag P b j) k)
          have b3 := bst_in (pkk P b) (fun j => co P b k' j + ag P b j) k (by omega)
          have e9 : ¬ (iz (bst (pkk P b) (fun j => co P b k' j + ag P b j) k : Int) = -9) := by rw [show (-9 : Int32) = iz (-9) from rfl, iz_eq (by omega) (by omega) (by omega) (by omega)]; omega
          have le : (iz (co P b k' (bst (pkk P b) (fun j => co P b k' j + ag P b j) k) + ag P b (bst (pkk P b) (fun j => co P b k' j + ag P b j) k)) ≤ iz (co P b k' k + ag P b k)) = (co P b k' (bst (pkk P b) (fun j => co P b k' j + ag P b j) k) + ag P b (bst (pkk P b) (fun j => co P b k' j + ag P b j) k) ≤ co P b k' k + ag P b k) := iz_le (by omega) (by omega) (by omega) (by omega)
          rw [if_neg e9]
          by_cases c2 : co P b k' (bst (pkk P b) (fun j => co P b k' j + ag P b j) k) + ag P b (bst (pkk P b) (fun j => co P b k' j + ag P b j) k) ≤ co P b k' k + ag P b k
          · rw [if_pos (by rw [le]; exact c2), if_pos rfl, if_pos rfl]
            have hs : bst (pkk P b) (fun j => co P b k' j + ag P b j) (k + 1) = bst (pkk P b) (fun j => co P b k' j + ag P b j) k := by
              rw [hst, if_neg]
              intro z
              rcases z.2 with y | y
              · exact c1 y
              · omega
            refine hK _ _ M' ⟨rfl, fun z => absurd (hs ▸ z) c1, fun z => ?_⟩
            rw [hs]
            exact ⟨rfl, rfl⟩
          · rw [if_neg (by rw [le]; exact c2), if_neg (by decide), if_neg (by decide)]
            exact take (by rw [hst, if_pos ⟨c0, Or.inr (by omega)⟩])
      rcases hw with ⟨hw, hm, ha⟩ | ⟨hw, hm⟩
      · rw [if_neg (by rw [hw]; decide)]
        rw [show (5 : Int32) * iz (b : Int) + iz (k : Int) = iz ((5 * b + k : Nat) : Int) by
          rw [show (5 : Int32) = iz 5 from rfl, iz_mul, iz_add]; rfl]
        rw [if_pos (inb_n (n := 5 * b + k) (by omega) (by omega)), cl_n (n := 5 * b + k) (by omega), ha k (by omega)]
        exact main _ rfl
      · rw [if_pos (by rw [hw])]
        exact main 0 (by unfold ag; rw [if_neg hm])
    · rw [if_pos (by rw [bz_f c0]; rfl)]
      have hs : bst (pkk P b) (fun j => co P b k' j + ag P b j) (k + 1) = bst (pkk P b) (fun j => co P b k' j + ag P b j) k := by
        rw [hst, if_neg (fun z => c0 z.1)]
      refine hK _ _ M' ⟨rfl, fun z => e2 (hs ▸ z), fun z => ?_⟩
      rw [hs]
      exact e3 (fun y => z (hs.trans y))
  · intro K v5 v6 M' ⟨e1, e2, e3⟩
    subst e1
    unfold f_X6_cheapest_b10
    have n0 : M' 39 b = iz (nn P b) := (hL b hb).2.1.1
    rw [if_pos (inb_n (n := b) (by omega) (by omega)), cl_n (n := b) (by omega), n0, if_pos (by rw [ltz (by omega) (by omega)]; omega)]
    have hm := bst_more (pkk P b) (fun j => co P b k' j + ag P b j) (n := nn P b + 1) 5 (by omega) (fun k a c z => by have := z.1; unfold nn at a; omega)
    rw [hm] at hn9
    refine Tot.mk ?_
    rw [(e3 hn9).1, ← hm]
    rfl
end MO
