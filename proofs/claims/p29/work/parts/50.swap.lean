theorem pswp_Ok {P : Pg} (hP : PgOk P) {a c : Nat} (ha : a < gS P) (hc : c < gS P) : PgOk (pswp P a c) := by
  have row : ∀ s, s < gS P → ∃ t, t < gS P ∧ ∀ b, gC (pswp P a c) s b = gC P t b := fun s hs => by
    have t : ∀ b, gC (pswp P a c) s b = if s = a then gC P c b else if s = c then gC P a b else gC P s b := fun _ => rfl
    by_cases e1 : s = a
    · exact ⟨c, hc, fun b => by rw [t, if_pos e1]⟩
    · by_cases e2 : s = c
      · exact ⟨a, ha, fun b => by rw [t, if_neg e1, if_pos e2]⟩
      · exact ⟨s, hs, fun b => by rw [t, if_neg e1, if_neg e2]⟩
  refine ⟨⟨hP.1.1, hP.1.2.1, fun s b hs hb => ?_⟩, fun s b hs hb h99 => ?_⟩
  · obtain ⟨t, ht, e⟩ := row s hs
    rw [e]; exact hP.1.2.2 t b ht hb
  · obtain ⟨t, ht, e⟩ := row s hs
    rw [e] at h99
    rw [e]
    exact hP.2 t b ht hb h99
