theorem padd_Ok {P : Pg} (hP : PgOk P) (h4 : gS P < 4) : PgOk (padd P) := by
  have t : ∀ s b, gC (padd P) s b = if s = gS P then -9 else gC P s b := fun _ _ => rfl
  refine ⟨⟨⟨⟨by show 1 ≤ gS P + 1; omega, by show gS P + 1 ≤ 4; omega⟩, hP.1.1.2⟩, hP.1.2.1, fun s b hs hb => ?_⟩, fun s b hs hb h99 => ?_⟩
  · have hs : s < gS P + 1 := hs
    rw [t]
    by_cases e : s = gS P
    · rw [if_pos e]; exact Or.inl rfl
    · rw [if_neg e]; exact hP.1.2.2 s b (by omega) hb
  · have hs : s < gS P + 1 := hs
    rw [t] at h99 ⊢
    by_cases e : s = gS P
    · rw [if_pos e] at h99; omega
    · rw [if_neg e] at h99 ⊢
      exact hP.2 s b (by omega) hb h99
theorem pdrp_Ok {P : Pg} (hP : PgOk P) (h4 : 1 < gS P) : PgOk (pdrp P) := by
  have h1 := hP.1.1.1
  refine ⟨⟨⟨⟨by show 1 ≤ gS P - 1; omega, by show gS P - 1 ≤ 4; omega⟩, hP.1.1.2⟩, hP.1.2.1, fun s b hs hb => ?_⟩, fun s b hs hb h99 => ?_⟩
  · have hs : s < gS P - 1 := hs
    exact hP.1.2.2 s b (by omega) hb
  · have hs : s < gS P - 1 := hs
    exact hP.2 s b (by omega) hb h99
