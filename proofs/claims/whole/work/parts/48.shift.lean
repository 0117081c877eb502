section MP
variable {M : Mem} {r b : Nat} {P : Pg}
theorem canShift_eq (h : PR M r 0 P) (hP : PgW P) (hl : lnA r = 72) {s : Nat} (hs : s < gS P) {d : Int} (d1 : -60 ≤ d) (d2 : d ≤ 60) : ∃ c : Int32, f_X6_canShift r (iz s) (iz d) M = some (c, M) ∧ (canMv P s d → c = 1) ∧ (¬ canMv P s d → c = 0) := by
  have h2 := hP.1.2
  have i7 : inb 7 (lnA r) := by rw [hl]; decide
  have : Tot (f_X6_canShift r (iz s) (iz d) M) (fun y => y.2 = M ∧ (canMv P s d → y.1 = 1) ∧ (¬ canMv P s d → y.1 = 0)) := by
    unfold f_X6_canShift
    rw [show (0 : Int32) = iz ((0 : Nat) : Int) from rfl]
    refine up2_tot (gB P) (fun i v M' => M' = M ∧ ((v = 1 ∧ ∀ b, b < i → pit (gC P s b) → pit (gC P s b + d)) ∨ (v = 0 ∧ ¬ canMv P s d))) ?_ ?_ 9999 0 _ M (by omega) ⟨rfl, Or.inl ⟨rfl, fun b hb => absurd hb (Nat.not_lt_zero b)⟩⟩ (by omega)
    · intro K i v M' hi ⟨e1, hv⟩ hK
      subst e1
      unfold f_X6_canShift_b5 f_X6_canShift_b59
      have hx := pg_lt hP.1 hs hi
      have hc := cOk_lt (hP.2.2 s i hs hi)
      rw [if_pos i7, c7, h.B, if_neg (by rw [lez (by omega) (by omega)]; omega), at_eq, ob_some, l8, hl, if_pos (inb_n (n := 8 + (16 * s + i)) (by omega) (by omega)), cl_n (n := 8 + (16 * s + i)) (by omega), h.C hs hi, a1z, iz_add, show (0 : Int64) = Int32.toInt64 (iz 0) by decide, show (60 : Int64) = Int32.toInt64 (iz 60) by decide]
      rcases hv with ⟨hv, hall⟩ | ⟨hv, hn⟩
      · subst hv
        rw [if_neg (by decide), in_eq M' (by omega) (by omega) (by omega) (by omega) (by omega) (by omega), ob_some]
        by_cases p1 : 0 ≤ gC P s i ∧ gC P s i ≤ 60
        · rw [if_neg (by rw [bz_t p1]; decide), in_eq M' (by omega) (by omega) (by omega) (by omega) (by omega) (by omega), ob_some]
          by_cases p2 : 0 ≤ gC P s i + d ∧ gC P s i + d ≤ 60
          · rw [if_neg (by rw [bz_t p2]; decide)]
            refine hK _ _ ⟨rfl, Or.inl ⟨rfl, fun b hb hp => ?_⟩⟩
            by_cases e : b = i
            · rw [e]; exact p2
            · exact hall b (by omega) hp
          · rw [if_pos (show bz (0 ≤ gC P s i + d ∧ gC P s i + d ≤ 60) = 0 from bz_f p2)]
            exact hK _ _ ⟨rfl, Or.inr ⟨rfl, fun z => p2 (z i hi p1)⟩⟩
        · rw [if_pos (show bz (0 ≤ gC P s i ∧ gC P s i ≤ 60) = 0 from bz_f p1)]
          refine hK _ _ ⟨rfl, Or.inl ⟨rfl, fun b hb hp => ?_⟩⟩
          by_cases e : b = i
          · rw [e] at hp; exact absurd hp p1
          · exact hall b (by omega) hp
      · subst hv
        rw [if_pos rfl]
        exact hK _ _ ⟨rfl, Or.inr ⟨rfl, hn⟩⟩
    · intro K v M' ⟨e1, hv⟩
      subst e1
      unfold f_X6_canShift_b5
      have e1 : v &&& 1 = v := by
        rcases hv with ⟨hv, _⟩ | ⟨hv, _⟩ <;> rw [hv] <;> decide
      rw [if_pos i7, c7, h.B, if_pos (Int32.le_refl _), if_pos e1]
      refine Tot.mk ⟨rfl, fun z => ?_, fun z => ?_⟩
      · rcases hv with ⟨hv, _⟩ | ⟨_, hn⟩
        · exact hv
        · exact absurd z hn
      · rcases hv with ⟨_, hall⟩ | ⟨hv, _⟩
        · exact absurd hall z
        · exact hv
  obtain ⟨⟨c, M'⟩, e, hM, h1, h2⟩ := this
  have hM : M' = M := hM
  subst hM
  exact ⟨c, e, h1, h2⟩
theorem mshift_tot (h : PR M r 0 P) (hP : PgW P) (hl : lnA r = 72) {s : Nat} (hs : s < gS P) {d : Int} (d1 : -60 ≤ d) (d2 : d ≤ 60) : Tot (f_X6_shift r (iz s) (iz d) M) (fun x => x.1 = iz (nPit P s (gB P)) ∧ PR x.2 r 0 (pmov P s d) ∧ Off (fun d => d = r) M x.2) := by
  have h2 := hP.1.2
  have i7 : inb 7 (lnA r) := by rw [hl]; decide
  unfold f_X6_shift
  rw [show (0 : Int32) = iz ((0 : Nat) : Int) from rfl]
  refine up2_tot (gB P) (fun i v M' => v = iz (nPit P s i) ∧ PR M' r 0 (pcel P (fun s' b => if (s' = s ∧ b < i) ∧ pit (gC P s' b) then gC P s' b + d else gC P s' b)) ∧ Off (fun d => d = r) M M') ?_ ?_ 9999 0 _ M (by omega) ⟨rfl, h.to rfl rfl (fun _ _ => rfl) (fun s' b _ _ => by show (if (s' = s ∧ b < 0) ∧ _ then _ else _) = _; rw [if_neg (by omega)]), Off.rf⟩ (by omega)
  · intro K i v M' hi ⟨e1, hJ, ho⟩ hK
    subst e1
    unfold f_X6_shift_b5
    have hx := pg_lt hP.1 hs hi
    have hc := cOk_lt (hP.2.2 s i hs hi)
    have hB : M' r 7 = iz (gB P) := hJ.B
    have e0 : gC (pcel P (fun s' b => if (s' = s ∧ b < i) ∧ pit (gC P s' b) then gC P s' b + d else gC P s' b)) s i = gC P s i := by
      show (if (s = s ∧ i < i) ∧ _ then _ else _) = _
      rw [if_neg (by omega)]
    have hcell : M' r (8 + (16 * s + i)) = iz (gC P s i) := by
      have := hJ.C (s := s) (b := i) hs hi
      rw [e0] at this
      exact this
    have ix := inb_n (n := 8 + (16 * s + i)) (N := 72) (by omega) (by omega)
    rw [if_pos i7, c7, hB, if_neg (by rw [lez (by omega) (by omega)]; omega), at_eq, ob_some, l8, hl, if_pos ix, cl_n (n := 8 + (16 * s + i)) (by omega), hcell, show (0 : Int64) = Int32.toInt64 (iz 0) by decide, show (60 : Int64) = Int32.toInt64 (iz 60) by decide, in_eq M' (by omega) (by omega) (by omega) (by omega) (by omega) (by omega), ob_some, a1z, hcell, iz_add]
    have cells : ∀ (w : Int) (s' b' : Nat), w = (if pit (gC P s i) then gC P s i + d else gC P s i) → (if (s' = s ∧ b' < i + 1) ∧ pit (gC P s' b') then gC P s' b' + d else gC P s' b') = if s' = s ∧ b' = i then w else if (s' = s ∧ b' < i) ∧ pit (gC P s' b') then gC P s' b' + d else gC P s' b' := by
      intro w s' b' hw
      by_cases c : s' = s ∧ b' = i
      · obtain ⟨rfl, rfl⟩ := c
        rw [if_pos (⟨rfl, rfl⟩ : s' = s' ∧ b' = b'), hw]
        by_cases p : pit (gC P s' b')
        · rw [if_pos ⟨⟨rfl, by omega⟩, p⟩, if_pos p]
        · rw [if_neg (fun z => p z.2), if_neg p]
      · rw [if_neg c]
        by_cases p : (s' = s ∧ b' < i) ∧ pit (gC P s' b')
        · rw [if_pos ⟨⟨p.1.1, by omega⟩, p.2⟩, if_pos p]
        · rw [if_neg (fun z => p ⟨⟨z.1.1, by omega⟩, z.2⟩), if_neg p]
    by_cases c1 : pit (gC P s i)
    · rw [if_neg (by rw [bz_t c1]; decide), if_pos ix, if_pos ix, show (1 : Int32) = iz 1 from rfl, iz_add]
      refine hK _ _ ⟨by unfold nPit; rw [sg, if_pos c1], pr_putc hJ hP.1 hs hi _ (fun s' b' _ _ => cells _ s' b' (by rw [if_pos c1])), ho.put rfl⟩
    · rw [if_pos (show bz (0 ≤ gC P s i ∧ gC P s i ≤ 60) = 0 from bz_f c1)]
      refine hK _ _ ⟨by unfold nPit; rw [sg, if_neg c1, Int.add_zero], hJ.to rfl rfl (fun _ _ => rfl) (fun s' b' hs' hb' => ?_), ho⟩
      refine (cells (gC P s i) s' b' (by rw [if_neg c1])).trans ?_
      show _ = if (s' = s ∧ b' < i) ∧ pit (gC P s' b') then gC P s' b' + d else gC P s' b'
      by_cases c : s' = s ∧ b' = i
      · obtain ⟨rfl, rfl⟩ := c
        rw [if_pos (⟨rfl, rfl⟩ : s' = s' ∧ b' = b'), if_neg (by omega)]
      · rw [if_neg c]
  · intro K v M' ⟨e1, hJ, ho⟩
    subst e1
    unfold f_X6_shift_b5
    have hB : M' r 7 = iz (gB P) := hJ.B
    rw [if_pos i7, c7, hB, if_pos (Int32.le_refl _)]
    refine Tot.mk ⟨rfl, hJ.to rfl rfl (fun _ _ => rfl) (fun s' b hs' hb => ?_), ho⟩
    have hb : b < gB P := hb
    show (if s' = s ∧ pit (gC P s' b) then gC P s' b + d else gC P s' b) = if (s' = s ∧ b < gB P) ∧ pit (gC P s' b) then gC P s' b + d else gC P s' b
    by_cases e : s' = s ∧ pit (gC P s' b)
    · rw [if_pos e, if_pos ⟨⟨e.1, hb⟩, e.2⟩]
    · rw [if_neg e, if_neg (fun z => e ⟨z.1.1, z.2⟩)]
end MP
