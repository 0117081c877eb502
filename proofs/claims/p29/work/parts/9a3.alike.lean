/-! TWO THAT ARE ALIKE -/
theorem alike_ok {D : Ds} (hD : DOk D) : ∀ M, S2 D D M → Tot (f_L_alike M) (fun x => x.1 = 1 ∧ S2 D D x.2) := by
  intro M h
  have h1 := hD.2.2.1.1.1.1
  have h2 := hD.2.2.1.1.1.2
  unfold f_L_alike
  rw [show (0 : Int32) = iz ((0 : Nat) : Int) from rfl]
  refine up2_tot 10 (fun i g M' => g = 1 ∧ S2 D D M') ?_ ?_ 11 0 1 M (by omega) ⟨rfl, h⟩ (by omega)
  · intro K i g M1 hi ⟨hg, h⟩ hK
    subst hg
    unfold f_L_alike_b4
    rw [if_neg (by rw [show (10 : Int32) = iz ((10 : Nat) : Int) from rfl, lez (by omega) (by omega)]; omega), if_neg (by decide)]
    refine stp_p (a_about hD (w := i) hi rfl) h (fun M2 h => ?_)
    refine stp_q (a_about hD (w := i) hi rfl) h (fun M4 h => ?_)
    rw [if_pos rfl]
    have b46 : ∀ M, S2 D D M → Tot (f_L_alike_b46 (iz (i : Int)) K M) (fun x => x.1 = 1 ∧ S2 D D x.2) := fun M h => by
      unfold f_L_alike_b46
      rw [a1z]
      exact hK _ _ ⟨rfl, h⟩
    by_cases c : 7 < i
    · rw [if_pos (by rw [show (7 : Int32) = iz ((7 : Nat) : Int) from rfl, ltz (by omega) (by omega)]; exact c)]
      exact b46 _ h
    · rw [if_neg (by rw [show (7 : Int32) = iz ((7 : Nat) : Int) from rfl, ltz (by omega) (by omega)]; exact c)]
      refine stp_p (a_whole hD (w := i) (by omega) rfl) h (fun M6 h => ?_)
      refine stp_q (a_whole hD (w := i) (by omega) rfl) h (fun M8 h => ?_)
      rw [if_pos rfl]
      exact b46 _ h
  · intro K g M1 ⟨hg, h⟩
    subst hg
    unfold f_L_alike_b4 f_L_alike_b58
    rw [if_pos (by decide), show (0 : Int32) = iz ((0 : Nat) : Int) from rfl]
    refine up2_tot (gS (dP D)) (fun i g M' => g = 1 ∧ S2 D D M') ?_ ?_ 5 0 1 M1 (by omega) ⟨rfl, h⟩ (by omega)
    · intro K2 s g M2 hs ⟨hg, h⟩ hK
      subst hg
      unfold f_L_alike_b60
      refine stp_p (a_S hD) h (fun M3 h => ?_)
      rw [if_neg (by rw [lez (by omega) (by omega)]; omega), if_neg (by decide), show (0 : Int32) = iz ((0 : Nat) : Int) from rfl]
      refine up2_tot (gB (dP D)) (fun i g M' => g = 1 ∧ S2 D D M') ?_ ?_ 17 0 1 M3 (by omega) ⟨rfl, h⟩ (by omega)
      · intro K3 b g M4 hb ⟨hg, h⟩ hK3
        subst hg
        unfold f_L_alike_b77
        refine stp_p (a_B hD) h (fun M5 h => ?_)
        rw [if_neg (by rw [lez (by omega) (by omega)]; omega), if_neg (by decide)]
        refine stp_p (a_cellw hD hs hb rfl rfl) h (fun M6 h => ?_)
        refine stp_q (a_cellw hD hs hb rfl rfl) h (fun M7 h => ?_)
        rw [if_pos rfl]
        refine stp_p (a_cells hD hs hb rfl rfl) h (fun M8 h => ?_)
        refine stp_q (a_cells hD hs hb rfl rfl) h (fun M9 h => ?_)
        rw [if_pos rfl, a1z]
        exact hK3 _ _ ⟨rfl, h⟩
      · intro K3 g M4 ⟨hg, h⟩
        subst hg
        unfold f_L_alike_b77
        refine stp_p (a_B hD) h (fun M5 h => ?_)
        rw [if_pos (Int32.le_refl _), a1z]
        exact hK _ _ ⟨rfl, h⟩
    · intro K2 g M2 ⟨hg, h⟩
      subst hg
      unfold f_L_alike_b60
      refine stp_p (a_S hD) h (fun M3 h => ?_)
      rw [if_pos (Int32.le_refl _), if_pos (by decide)]
      exact Tot.mk ⟨rfl, h⟩
