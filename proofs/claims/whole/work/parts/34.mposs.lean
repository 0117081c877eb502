section MO
variable {M : Mem} {r b : Nat} {P : Pg} {ρ : Nat → Int}
theorem pitchOf_eq (hB : MB M P b ρ) (hW : MW M P b ρ) (hR : RO P b ρ) (hP : PgW P) (hb : b < gB P) {i : Nat} (hi : i < rN P b ρ) : f_X6_pitchOf (iz b) (iz i) M = some (iz (pt P b ρ i), M) := by
  unfold f_X6_pitchOf
  have h2 := hP.1.2
  have n4 := row_n4 hW.2.2
  have hs := kept_lt hR (hW.2.2.1 i hi).2
  have hx := pg_lt hP.1 hs.1 hb
  rw [ix4, if_pos (inb_n (n := 4 * b + i) (by omega) (by omega)), cl_n (n := 4 * b + i) (by omega), hW.2.1 i hi, at_eq, ob_some, if_pos (inb_n hx (by omega)), cl_n (n := 16 * rR P b ρ i + b) (by omega), hB.1 _ hs.1]
  rfl
theorem ltz {a b : Nat} (ha : a < 2147483648) (hb : b < 2147483648) : (iz (a : Int) < iz (b : Int)) = (a < b) := by
  rw [iz_lt (by omega) (by omega) (by omega) (by omega)]
  exact propext ⟨fun h => by omega, fun h => by omega⟩
theorem width_eq (hB : MB M P b ρ) (hW : MW M P b ρ) (hR : RO P b ρ) (hP : PgW P) (hb : b < gB P) {i j : Nat} (hij : i ≤ j) (hj : j ≤ rN P b ρ) : f_X6_width (iz b) (iz i) (iz j) M = some (iz (widP P b ρ i j), M) := by
  unfold f_X6_width widP
  have n4 := row_n4 hW.2.2
  by_cases c : i < j
  · rw [if_neg (by rw [lez (by omega) (by omega)]; omega), if_pos c]
    rw [show iz (j : Int) - 1 = iz ((j - 1 : Nat) : Int) by
      rw [show (1 : Int32) = iz 1 from rfl, iz_sub]
      congr 1
      omega]
    rw [pitchOf_eq hB hW hR hP hb (i := j - 1) (by omega), ob_some, pitchOf_eq hB hW hR hP hb (i := i) (by omega), ob_some, iz_sub]
  · rw [if_pos (by rw [lez (by omega) (by omega)]; omega), if_neg c]
    rfl
theorem mwid_rng (hW : MW M P b ρ) (hP : PgW P) (hb : b < gB P) {i j : Nat} (hj : j ≤ rN P b ρ) : 0 ≤ widP P b ρ i j ∧ widP P b ρ i j ≤ 69 := by
  unfold widP pt
  by_cases e : i < j
  · rw [if_pos e]
    have a1 := sp_rng hP hb (rR P b ρ i)
    have a2 := sp_rng hP hb (rR P b ρ (j - 1))
    by_cases d : i = j - 1
    · rw [← d]; omega
    · have := hW.2.2.2.2 i (j - 1) (by omega) (by omega)
      omega
  · rw [if_neg e]; omega
theorem mcanPlay_eq (h : PR M r 0 P) (hB : MB M P b ρ) (hW : MW M P b ρ) (hR : RO P b ρ) (hP : PgW P) (hl : lnA r = 72) (hb : b < gB P) {hh i j : Nat} (h2 : hh < 2) (hij : i ≤ j) (hj : j ≤ rN P b ρ) : f_X6_canPlay r (iz hh) (iz b) (iz i) (iz j) M = some (bz (canP P b ρ hh i j), M) := by
  unfold f_X6_canPlay
  have n4 := row_n4 hW.2.2
  have hb2 := hP.1.2
  have i2 : inb 2 (lnA r) := by rw [hl]; decide
  have i3 : inb 3 (lnA r) := by rw [hl]; decide
  refine Tot.eq ?_
  rw [show (0 : Int32) = iz ((0 : Nat) : Int) from rfl]
  refine up2_tot j (fun k v M' => i ≤ k ∧ M' = M ∧ v = bz (hdIn P b ρ i k)) ?_ ?_ 9999 i _ M hij ⟨Nat.le_refl i, rfl, by rw [bz_f (fun ⟨m, a, c, _⟩ => by omega)]; rfl⟩ (by omega)
  · intro K k v M' hk ⟨hik, e1, e2⟩ hK
    subst e1
    unfold f_X6_canPlay_b7
    have hs := kept_lt hR (hW.2.2.1 k (by omega)).2
    rw [if_neg (by rw [lez (by omega) (by omega)]; omega), ix4, a1z]
    have yes : hdIn P b ρ i (k + 1) → Tot (K 1 (iz ((k + 1 : Nat) : Int)) M') (fun x => x = (bz (canP P b ρ hh i j), M')) := fun z =>
      hK _ _ ⟨by omega, rfl, by rw [bz_t z]; rfl⟩
    by_cases cv : hdIn P b ρ i k
    · rw [if_neg (by rw [e2, bz_t cv]; decide)]
      unfold f_X6_canPlay_b39
      rw [a1z]
      exact yes (by obtain ⟨m, a, c⟩ := cv; exact ⟨m, by omega, c⟩)
    · rw [if_pos (by rw [e2, bz_f cv]; rfl), if_pos (inb_n (n := 4 * b + k) (by omega) (by omega)), cl_n (n := 4 * b + k) (by omega), hW.2.1 k (by omega), isHeld_eq h hP hl hs.1 hb, ob_some]
      by_cases ch : hd P b (rR P b ρ k)
      · rw [if_neg (by rw [bz_t ch]; decide)]
        unfold f_X6_canPlay_b39
        rw [a1z]
        exact yes ⟨k, by omega, hik, ch⟩
      · rw [if_pos (by rw [bz_f ch]; rfl)]
        refine hK _ _ ⟨by omega, rfl, ?_⟩
        rw [bz_f]
        · rfl
        · intro ⟨m, a, c, z⟩
          by_cases d : m = k
          · rw [d] at z; exact ch z
          · exact cv ⟨m, by omega, c, z⟩
  · intro K v M' ⟨_, e1, e2⟩
    subst e1
    unfold f_X6_canPlay_b7
    rw [if_pos (Int32.le_refl _)]
    unfold f_X6_canPlay_b52
    have e_2 := hP.2.1.2.2.1
    have e_3 := hP.2.1.2.2.2.1
    have e_h := PgE_rng hP.2.1 (j := hh) (by omega)
    have wr := mwid_rng hW hP hb (i := i) hj
    rw [if_pos i2, c2, h.E (by omega), iz_sub]
    have lt2 : (iz (gE P 2) < iz ((j : Int) - i)) = (gE P 2 < (j : Int) - i) := iz_lt (by omega) (by omega) (by omega) (by omega)
    by_cases c1 : gE P 2 < (j : Int) - i
    · rw [if_pos (by rw [lt2]; exact c1)]
      exact Tot.mk (by rw [bz_f (fun z => by have := z.1; omega)]; rfl)
    · rw [if_neg (by rw [lt2]; exact c1), width_eq hB hW hR hP hb hij hj, ob_some, hl, if_pos (inb_n (n := hh) (by omega) (by omega)), cl_n (n := hh) (by omega), h.E (j := hh) (by omega)]
      have tail : ∀ a : Int, -2147483648 ≤ a → a < 2147483000 → a = (if hdIn P b ρ i j then 0 else gE P 3) → f_X6_canPlay_b87 (iz a) (iz (gE P hh)) (iz (widP P b ρ i j)) M' = some (bz (canP P b ρ hh i j), M') := fun a a0 a1 ha => by
        have ar : 0 ≤ a ∧ a ≤ 9 := by
          rw [ha]
          split <;> omega
        unfold f_X6_canPlay_b87
        rw [iz_add]
        have ll : (iz (gE P hh + a) < iz (widP P b ρ i j)) = (gE P hh + a < widP P b ρ i j) := iz_lt (by omega) (by omega) (by omega) (by omega)
        by_cases c3 : gE P hh + a < widP P b ρ i j
        · rw [if_pos (by rw [ll]; exact c3), bz_f]
          · rfl
          · intro z
            have z2 := z.2
            rw [← ha] at z2
            omega
        · rw [if_neg (by rw [ll]; exact c3), bz_t]
          · rfl
          · refine ⟨by omega, ?_⟩
            rw [← ha]
            omega
      by_cases cv : hdIn P b ρ i j
      · rw [if_neg (by rw [e2, bz_t cv]; decide)]
        exact Tot.of (tail 0 (by omega) (by omega) (by rw [if_pos cv])) rfl
      · have i3' : inb 3 72 := by decide
        rw [if_pos (by rw [e2, bz_f cv]; rfl), if_pos i3', c3, h.E (j := 3) (by omega)]
        exact Tot.of (tail (gE P 3) (by omega) (by omega) (by rw [if_neg cv])) rfl
theorem layPossible_tot (h : PR M r 0 P) (hB : MB M P b ρ) (hW : MW M P b ρ) (hR : RO P b ρ) (hP : PgW P) (hl : lnA r = 72) (hr : r < 36) (hb : b < gB P) : Tot (f_X6_layPossible r (iz b) M) (fun x => MB x.2 P b ρ ∧ MW x.2 P b ρ ∧ x.2 40 b = pkm P b ρ ∧ OffB b M x.2) := by
  unfold f_X6_layPossible
  have n4 := row_n4 hW.2.2
  have hb2 := hP.1.2
  have ib := inb_n (n := b) (N := 16) (by omega) (by omega)
  have wput : ∀ {M' : Mem} {v : Int32}, MW M' P b ρ → MW (mw M' 40 b v) P b ρ := fun hw => ⟨by rw [mw_ne (by omega)]; exact hw.1, fun i hi => by rw [mw_ne (by omega)]; exact hw.2.1 i hi, hw.2.2⟩
  rw [if_pos ib, cl_n (n := b) (by omega), show (0 : Int32) = iz ((0 : Nat) : Int) from rfl]
  refine up_tot (rN P b ρ + 1) (fun k M' => MB M' P b ρ ∧ MW M' P b ρ ∧ M' 40 b = mf (fun j => decide (j < k ∧ pk P b ρ j)) ∧ OffB b M M') ?_ ?_ 9999 0 _ (by omega) ⟨hB.put (by omega), wput hW, ?_, OffB.rf.put (Or.inr (Or.inr (Or.inr ⟨rfl, rfl⟩)))⟩ (by omega)
  · intro k9 k M1 hk ⟨hB, hW, h40, ho⟩ hk9
    have hp := h.same (M' := M1) (ho.r (by omega))
    unfold f_X6_layPossible_b9
    have p0 : f_X6_canPlay r 0 (iz b) 0 (iz k) M1 = some (bz (canP P b ρ 0 0 k), M1) := mcanPlay_eq hp hB hW hR hP hl hb (hh := 0) (i := 0) (j := k) (by omega) (by omega) (by omega)
    have p1 : f_X6_canPlay r 1 (iz b) (iz k) (iz (rN P b ρ)) M1 = some (bz (canP P b ρ 1 k (rN P b ρ)), M1) := mcanPlay_eq hp hB hW hR hP hl hb (hh := 1) (i := k) (j := rN P b ρ) (by omega) (by omega) (by omega)
    rw [if_pos ib, cl_n (n := b) (by omega), hW.1, if_neg (by rw [ltz (by omega) (by omega)]; omega), p0, ob_some]
    have no : ¬ pk P b ρ k → Tot (f_X6_layPossible_b53 r (iz b) (iz k) k9 0 M1) (fun x => MB x.2 P b ρ ∧ MW x.2 P b ρ ∧ x.2 40 b = pkm P b ρ ∧ OffB b M x.2) := fun np => by
      unfold f_X6_layPossible_b53
      rw [if_pos ib, if_pos rfl, if_pos ib, cl_n (n := b) (by omega), h40, a1z]
      refine hk9 _ ⟨hB.put (by omega), wput hW, ?_, ho.put (Or.inr (Or.inr (Or.inr ⟨rfl, rfl⟩)))⟩
      rw [mw_at, if_pos rfl, show (0 : Int32) = mf (fun _ => false) from mf_none.symm, mf_or]
      refine mf_cong fun j _ => ?_
      rw [Bool.eq_iff_iff]
      simp only [decide_eq_true_eq, Bool.or_false]
      refine ⟨fun z => ⟨by omega, z.2⟩, fun z => ⟨?_, z.2⟩⟩
      by_cases d : j = k
      · rw [d] at z; exact absurd z.2 np
      · omega
    by_cases c0 : canP P b ρ 0 0 k
    · rw [if_neg (by rw [bz_t c0]; decide), if_pos ib, hW.1, p1, ob_some]
      by_cases c1 : canP P b ρ 1 k (rN P b ρ)
      · rw [if_neg (by rw [bz_t c1]; decide)]
        unfold f_X6_layPossible_b53
        rw [if_pos ib, if_neg (by decide), if_pos ib, cl_n (n := b) (by omega), h40, a1z, mf_set _ (by omega)]
        refine hk9 _ ⟨hB.put (by omega), wput hW, ?_, ho.put (Or.inr (Or.inr (Or.inr ⟨rfl, rfl⟩)))⟩
        rw [mw_at, if_pos rfl]
        refine mf_cong fun j _ => ?_
        rw [Bool.eq_iff_iff]
        simp only [decide_eq_true_eq, Bool.or_eq_true]
        refine ⟨fun z => ?_, fun z => ?_⟩
        · rcases z with z | z
          · exact ⟨by omega, z.2⟩
          · rw [z]; exact ⟨by omega, by omega, c0, c1⟩
        · by_cases d : j = k
          · exact Or.inr d
          · exact Or.inl ⟨by omega, z.2⟩
      · rw [if_pos (by rw [bz_f c1]; rfl)]
        exact no (fun z => c1 z.2.2)
    · rw [if_pos (by rw [bz_f c0]; rfl)]
      exact no (fun z => c0 z.2.1)
  · intro k9 M1 ⟨hB, hW, h40, ho⟩
    unfold f_X6_layPossible_b9
    rw [if_pos ib, cl_n (n := b) (by omega), hW.1, if_pos (by rw [ltz (by omega) (by omega)]; omega)]
    refine Tot.mk ⟨hB, hW, h40.trans (mf_cong fun j _ => ?_), ho⟩
    rw [Bool.eq_iff_iff]
    simp only [decide_eq_true_eq]
    exact ⟨fun z => z.2, fun z => ⟨by have := z.1; omega, z⟩⟩
  · rw [mw_at, if_pos rfl, show iz ((0 : Nat) : Int) = mf (fun _ => false) from mf_none.symm]
    refine mf_cong fun j _ => ?_
    exact (decide_eq_false (fun z => Nat.not_lt_zero j z.1)).symm
end MO
