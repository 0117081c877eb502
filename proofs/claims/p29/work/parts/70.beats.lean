theorem im1 (i : Nat) (h : 0 < i) : iz (i : Int) + -1 = iz ((i - 1 : Nat) : Int) := by
  rw [show (-1 : Int32) = iz (-1) from rfl, iz_add]
  congr 1
  omega
/-- the cells of a page as a table -/
def QR (M : Mem) (r : Nat) (c : Nat → Nat → Int) (S B : Nat) : Prop := ∀ s b, s < S → b < B → M r (8 + (16 * s + b)) = iz (c s b)
theorem QR.put {M : Mem} {r S B s b : Nat} {c c' : Nat → Nat → Int} (h : QR M r c S B) (hB : B ≤ 16) (hb : b < 16) (v : Int) (hc : ∀ s' b', s' < S → b' < B → c' s' b' = if s' = s ∧ b' = b then v else c s' b') : QR (mw M r (8 + (16 * s + b)) (iz v)) r c' S B := fun s' b' hs' hb' => by
  rw [mw_at, hc s' b' hs' hb']
  by_cases e : s' = s ∧ b' = b
  · rw [if_pos e, if_pos (by omega)]
  · rw [if_neg e, if_neg (by omega)]; exact h s' b' hs' hb'
theorem QR.to {M : Mem} {r S B : Nat} {c c' : Nat → Nat → Int} (h : QR M r c S B) (hc : ∀ s' b', s' < S → b' < B → c' s' b' = c s' b') : QR M r c' S B := fun s' b' hs' hb' => by
  rw [hc s' b' hs' hb']; exact h s' b' hs' hb'
theorem popn_W {P : Pg} (h : PgW P) (h16 : gB P < 16) {t : Nat} (ht : t ≤ gB P) : PgW (popn P t) := by
  refine ⟨⟨h.1.1, ?_⟩, h.2.1, fun s b hs hb => ?_⟩
  · show 1 ≤ gB P + 1 ∧ gB P + 1 ≤ 16
    omega
  · have hs : s < gS P := hs
    have hb : b < gB P + 1 := hb
    show cOk (if b < t then gC P s b else if b = t then -9 else gC P s (b - 1))
    by_cases c : b < t
    · rw [if_pos c]; exact h.2.2 s b hs (by omega)
    · rw [if_neg c]
      by_cases d : b = t
      · rw [if_pos d]; exact Or.inl rfl
      · rw [if_neg d]; exact h.2.2 s (b - 1) hs (by omega)
theorem pcls_W {P : Pg} (h : PgW P) (h1 : 1 < gB P) (t : Nat) : PgW (pcls P t) := by
  have := h.1.2
  refine ⟨⟨h.1.1, ?_⟩, h.2.1, fun s b hs hb => ?_⟩
  · show 1 ≤ gB P - 1 ∧ gB P - 1 ≤ 16
    omega
  · have hs : s < gS P := hs
    have hb : b < gB P - 1 := hb
    show cOk (if b < t then gC P s b else gC P s (b + 1))
    by_cases c : b < t
    · rw [if_pos c]; exact h.2.2 s b hs (by omega)
    · rw [if_neg c]; exact h.2.2 s (b + 1) hs (by omega)
section DB
variable {M : Mem} {r t : Nat} {P : Pg}
end DB
