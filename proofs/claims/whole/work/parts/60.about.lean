theorem cellsLike_eq {M : Mem} {r : Nat} {P : Pg} (h : PR M r 0 P) (hP : PgW P) (hl : lnA r = 72) {w : Nat} (hw : w < 2) : f_X6_cellsLike r (iz w) M = some (iz (if w = 0 then nPits P (gS P) else nHolds P (gS P)), M) := by
  have h1 := hP.1.1
  have h2 := hP.1.2
  have i6 : inb 6 (lnA r) := by rw [hl]; decide
  have i7 : inb 7 (lnA r) := by rw [hl]; decide
  have ew : (iz (w : Int) = 0) = (w = 0) := wz (by omega) 0 (by omega)
  unfold f_X6_cellsLike
  refine Tot.eq ?_
  rw [show (0 : Int32) = iz ((0 : Nat) : Int) from rfl]
  refine up2_tot (gS P) (fun s x M' => M' = M ∧ x = iz (if w = 0 then nPits P s else nHolds P s)) ?_ ?_ 9999 0 _ M (by omega) ⟨rfl, by split <;> rfl⟩ (by omega)
  · intro K s x M' hs ⟨e1, e2⟩ hK
    subst e1 e2
    unfold f_X6_cellsLike_b4
    rw [if_pos i6, c6, h.S, if_neg (by rw [lez (by omega) (by omega)]; omega), show (0 : Int32) = iz ((0 : Nat) : Int) from rfl]
    refine up2_tot (gB P) (fun b x M'' => M'' = M' ∧ x = iz (if w = 0 then nPits P s + nPit P s b else nHolds P s + nHold P s b)) ?_ ?_ 9999 0 _ M' (by omega) ⟨rfl, by
      by_cases c : w = 0
      · rw [if_pos c, if_pos c]; congr 1; exact (Int.add_zero _).symm
      · rw [if_neg c, if_neg c]; congr 1; exact (Int.add_zero _).symm⟩ (by omega)
    · intro K2 b x M'' hb ⟨e1, e2⟩ hK2
      subst e1 e2
      unfold f_X6_cellsLike_b15
      have hx := pg_lt hP.1 hs hb
      have hc := cOk_lt (hP.2.2 s b hs hb)
      have e99 : (iz (gC P s b) = 99) = (gC P s b = 99) := by rw [show (99 : Int32) = iz 99 from rfl, iz_eq (by omega) (by omega) (by omega) (by omega)]
      rw [if_pos i7, c7, h.B, if_neg (by rw [lez (by omega) (by omega)]; omega), at_eq, ob_some, l8, hl, if_pos (inb_n (n := 8 + (16 * s + b)) (by omega) (by omega)), cl_n (n := 8 + (16 * s + b)) (by omega), h.C hs hb, a1z]
      by_cases c : w = 0
      · simp only [if_pos c] at hK2 ⊢
        rw [if_pos (by rw [ew]; exact c), show (0 : Int64) = Int32.toInt64 (iz 0) by decide, show (60 : Int64) = Int32.toInt64 (iz 60) by decide, in_eq M'' (by omega) (by omega) (by omega) (by omega) (by omega) (by omega), ob_some]
        by_cases p : 0 ≤ gC P s b ∧ gC P s b ≤ 60
        · rw [if_neg (by rw [bz_t p]; decide), show (1 : Int32) = iz 1 from rfl, iz_add]
          refine hK2 _ _ ⟨rfl, ?_⟩
          unfold nPit
          rw [sg, if_pos p, Int.add_assoc]
        · rw [if_pos (show bz (0 ≤ gC P s b ∧ gC P s b ≤ 60) = 0 from bz_f p), show (0 : Int32) = iz 0 from rfl, iz_add]
          refine hK2 _ _ ⟨rfl, ?_⟩
          unfold nPit
          rw [sg, if_neg p, Int.add_assoc]
      · simp only [if_neg c] at hK2 ⊢
        rw [if_neg (by rw [ew]; exact c)]
        by_cases p : gC P s b = 99
        · rw [if_pos (by rw [e99]; exact p), show (1 : Int32) = iz 1 from rfl, iz_add]
          refine hK2 _ _ ⟨rfl, ?_⟩
          unfold nHold
          rw [sg, if_pos p, Int.add_assoc]
        · rw [if_neg (by rw [e99]; exact p), show (0 : Int32) = iz 0 from rfl, iz_add]
          refine hK2 _ _ ⟨rfl, ?_⟩
          unfold nHold
          rw [sg, if_neg p, Int.add_assoc]
    · intro K2 x M'' ⟨e1, e2⟩
      subst e1 e2
      unfold f_X6_cellsLike_b15
      rw [if_pos i7, c7, h.B, if_pos (Int32.le_refl _), a1z]
      refine hK _ _ ⟨rfl, ?_⟩
      rfl
  · intro K x M' ⟨e1, e2⟩
    subst e1 e2
    unfold f_X6_cellsLike_b4
    rw [if_pos i6, c6, h.S, if_pos (Int32.le_refl _)]
    exact Tot.mk rfl
