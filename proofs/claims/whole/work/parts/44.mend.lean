section MP
variable {M : Mem} {r b : Nat} {P : Pg}
theorem pr_putc (h : PR M r 0 P) (hP : PgD P) {s b : Nat} (hs : s < gS P) (hb : b < gB P) (v : Int) {c : Nat → Nat → Int} (hc : ∀ s' b', s' < gS P → b' < gB P → c s' b' = if s' = s ∧ b' = b then v else gC P s' b') : PR (mw M r (8 + (16 * s + b)) (iz v)) r 0 (pcel P c) := by
  obtain ⟨h1, h2, h3, h4⟩ := h
  have hx := hP.2
  refine ⟨fun j hj => by rw [mw_at, if_neg (by omega)]; exact h1 j hj, by rw [mw_at, if_neg (by omega)]; exact h2, by rw [mw_at, if_neg (by omega)]; exact h3, fun s' b' hs' hb' => ?_⟩
  have hs' : s' < gS P := hs'
  have hb' : b' < gB P := hb'
  rw [mw_at]
  show _ = iz (c s' b')
  rw [hc s' b' hs' hb']
  by_cases e : s' = s ∧ b' = b
  · obtain ⟨rfl, rfl⟩ := e
    rw [if_pos (by omega), if_pos ⟨rfl, rfl⟩]
  · rw [if_neg (by omega), if_neg e]
    exact h4 s' b' hs' hb'
theorem pm1 (n : Nat) (hn : 0 < n) : iz (n : Int) - 1 = iz ((n - 1 : Nat) : Int) := by
  rw [show (1 : Int32) = iz 1 from rfl, iz_sub]
  congr 1
  omega
theorem mend_tot (h : PR M r 0 P) (hP : PgW P) (hl : lnA r = 72) : Tot (f_X6_mend r M) (fun x => PR x.2 r 0 (pmend P) ∧ Off (fun d => d = r) M x.2) := by
  have h1 := hP.1.1
  have h2 := hP.1.2
  have i6 : inb 6 (lnA r) := by rw [hl]; decide
  have i7 : inb 7 (lnA r) := by rw [hl]; decide
  unfold f_X6_mend
  rw [show (0 : Int32) = iz ((0 : Nat) : Int) from rfl]
  refine up_tot (gS P) (fun s M' => PR M' r 0 (pmp P s 0) ∧ Off (fun d => d = r) M M') ?_ ?_ 9999 0 M (by omega) ⟨h.to rfl rfl (fun _ _ => rfl) (fun s b hs hb => ?_), Off.rf⟩ (by omega)
  · intro k s M1 hs ⟨hJ, ho⟩ hk
    unfold f_X6_mend_b2
    have hS : M1 r 6 = iz (gS P) := hJ.S
    rw [if_pos i6, c6, hS, if_neg (by rw [lez (by omega) (by omega)]; omega), show (0 : Int32) = iz ((0 : Nat) : Int) from rfl]
    refine up_tot (gB P) (fun b M' => PR M' r 0 (pmp P s b) ∧ Off (fun d => d = r) M M') ?_ ?_ 9999 0 M1 (by omega) ⟨hJ, ho⟩ (by omega)
    · intro k2 b M2 hb ⟨hJ2, ho2⟩ hk2
      unfold f_X6_mend_b12
      have hx := pg_lt hP.1 hs hb
      have hB : M2 r 7 = iz (gB P) := hJ2.B
      have hc : gC (pmp P s b) s b = gC P s b := by
        show (if s < s ∨ (s = s ∧ b < b) then _ else _) = _
        rw [if_neg (by omega)]
      have hcell : M2 r (8 + (16 * s + b)) = iz (gC P s b) := by rw [hJ2.C (P := pmp P s b) hs hb, hc]
      have hcr := cOk_lt (hP.2.2 s b hs hb)
      have e99 : (iz (gC P s b) = 99) = (gC P s b = 99) := by rw [show (99 : Int32) = iz 99 from rfl, iz_eq (by omega) (by omega) (by omega) (by omega)]
      have ix := inb_n (n := 8 + (16 * s + b)) (N := 72) (by omega) (by omega)
      rw [if_pos i7, c7, hB, if_neg (by rw [lez (by omega) (by omega)]; omega), at_eq, ob_some, l8, hl, if_pos ix, cl_n (n := 8 + (16 * s + b)) (by omega), hcell]
      have fin : ∀ v : Int, v = mnd (gC P s) b → Tot (k2 (iz ((b + 1 : Nat) : Int)) (mw M2 r (8 + (16 * s + b)) (iz v))) (fun x => PR x.2 r 0 (pmend P) ∧ Off (fun d => d = r) M x.2) := fun v hv => by
        subst hv
        refine hk2 _ ⟨pr_putc (P := pmp P s b) hJ2 hP.1 hs hb _ (fun s' b' hs' hb' => ?_), ho2.put rfl⟩
        show (if s' < s ∨ (s' = s ∧ b' < b + 1) then mnd (gC P s') b' else gC P s' b') = if s' = s ∧ b' = b then mnd (gC P s) b else if s' < s ∨ (s' = s ∧ b' < b) then mnd (gC P s') b' else gC P s' b'
        by_cases e : s' = s ∧ b' = b
        · obtain ⟨rfl, rfl⟩ := e
          rw [if_pos (by omega), if_pos ⟨rfl, rfl⟩]
        · rw [if_neg e]
          by_cases e2 : s' < s ∨ (s' = s ∧ b' < b)
          · rw [if_pos (by omega), if_pos e2]
          · rw [if_neg (by omega), if_neg e2]
      have keep : mnd (gC P s) b = gC P s b → Tot (f_X6_mend_b58 r (iz s) (iz b) (iz ((8 + (16 * s + b) : Nat) : Int)) k k2 (iz ((8 + (16 * s + b) : Nat) : Int)) r M2) (fun x => PR x.2 r 0 (pmend P) ∧ Off (fun d => d = r) M x.2) := fun e => by
        unfold f_X6_mend_b58
        rw [hl, if_pos ix, if_pos ix, cl_n (n := 8 + (16 * s + b)) (by omega), hcell, a1z]
        exact fin _ e.symm
      have rest : mnd (gC P s) b = -9 → Tot (f_X6_mend_b53 r (iz s) (iz b) k k2 (iz ((8 + (16 * s + b) : Nat) : Int)) r M2) (fun x => PR x.2 r 0 (pmend P) ∧ Off (fun d => d = r) M x.2) := fun e => by
        unfold f_X6_mend_b53
        rw [hl, if_pos ix, cl_n (n := 8 + (16 * s + b)) (by omega), a1z]
        exact fin (-9) e.symm
      by_cases ch : gC P s b = 99
      · rw [if_pos (by rw [e99]; exact ch)]
        by_cases cb : b = 0
        · rw [if_pos (by rw [cb]; rfl)]
          refine rest ?_
          rw [cb] at ch ⊢
          unfold mnd
          rw [if_pos ch]
        · have eb : ¬ (iz (b : Int) = 0) := by rw [show (0 : Int32) = iz 0 from rfl, iz_eq (by omega) (by omega) (by omega) (by omega)]; omega
          have hp : M2 r (8 + (16 * s + b) - 1) = iz (mnd (gC P s) (b - 1)) := by
            have := hJ2.C (P := pmp P s b) (b := b - 1) hs (by show b - 1 < gB P; omega)
            rw [show 8 + (16 * s + b) - 1 = 8 + (16 * s + (b - 1)) by omega, this]
            show iz (if s < s ∨ (s = s ∧ b - 1 < b) then mnd (gC P s) (b - 1) else _) = _
            rw [if_pos (by omega)]
          have hmr := cOk_lt (mnd_rng (c := gC P s) (n := gB P) (fun b' hb' => hP.2.2 s b' hs hb') (b - 1) (by omega))
          have e9 : (iz (mnd (gC P s) (b - 1)) = -9) = (mnd (gC P s) (b - 1) = -9) := by rw [show (-9 : Int32) = iz (-9) from rfl, iz_eq (by omega) (by omega) (by omega) (by omega)]
          rw [if_neg eb, pm1 _ (by omega), if_pos (inb_n (n := 8 + (16 * s + b) - 1) (by omega) (by omega)), cl_n (n := 8 + (16 * s + b) - 1) (by omega), hp]
          obtain ⟨b0, rfl⟩ : ∃ b0, b = b0 + 1 := ⟨b - 1, by omega⟩
          rw [show b0 + 1 - 1 = b0 by omega] at e9 ⊢
          by_cases c9 : mnd (gC P s) b0 = -9
          · rw [if_pos (by rw [e9]; exact c9)]
            refine rest ?_
            rw [mnd, if_pos ⟨ch, c9⟩]
          · rw [if_neg (by rw [e9]; exact c9)]
            refine keep ?_
            rw [mnd, if_neg (fun z => c9 z.2)]
      · rw [if_neg (by rw [e99]; exact ch)]
        refine keep ?_
        cases b with
        | zero => rw [mnd, if_neg ch]
        | succ b0 => rw [mnd, if_neg (fun z => ch z.1)]
    · intro k2 M2 ⟨hJ2, ho2⟩
      unfold f_X6_mend_b12
      have hB : M2 r 7 = iz (gB P) := hJ2.B
      rw [if_pos i7, c7, hB, if_pos (Int32.le_refl _), a1z]
      refine hk _ ⟨hJ2.to rfl rfl (fun _ _ => rfl) (fun s' b' hs' hb' => ?_), ho2⟩
      have hb' : b' < gB P := hb'
      show (if s' < s + 1 ∨ (s' = s + 1 ∧ b' < 0) then mnd (gC P s') b' else gC P s' b') = if s' < s ∨ (s' = s ∧ b' < gB P) then mnd (gC P s') b' else gC P s' b'
      by_cases e2 : s' < s + 1
      · rw [if_pos (by omega), if_pos (by omega)]
      · rw [if_neg (by omega), if_neg (by omega)]
  · intro k M1 ⟨hJ, ho⟩
    unfold f_X6_mend_b2
    have hS : M1 r 6 = iz (gS P) := hJ.S
    rw [if_pos i6, c6, hS, if_pos (Int32.le_refl _)]
    refine Tot.mk ⟨hJ.to rfl rfl (fun _ _ => rfl) (fun s' b' hs' hb' => ?_), ho⟩
    have hs' : s' < gS P := hs'
    show mnd (gC P s') b' = if s' < gS P ∨ (s' = gS P ∧ b' < 0) then mnd (gC P s') b' else gC P s' b'
    rw [if_pos (by omega)]
  · show (if s < 0 ∨ (s = 0 ∧ b < 0) then mnd (gC P s) b else gC P s b) = gC P s b
    rw [if_neg (by omega)]
end MP
