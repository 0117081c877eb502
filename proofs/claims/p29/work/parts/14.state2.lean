def pput (P : Pg) (s b : Nat) (v : Int) : Pg := (gE P, gS P, gB P, fun s' b' => if s' = s ∧ b' = b then v else gC P s' b')
theorem pput_W {P : Pg} (h : PgW P) (s b : Nat) {v : Int} (hv : cOk v) : PgW (pput P s b v) := by
  obtain ⟨h1, h3, h4⟩ := h
  refine ⟨h1, h3, fun s' b' hs hb => ?_⟩
  show cOk (if s' = s ∧ b' = b then v else gC P s' b')
  split
  · exact hv
  · exact h4 s' b' hs hb
theorem iSt_ne (k : Nat) : iSt k ≠ iSt k + 1 ∧ iSt k ≠ iSt k + 2 ∧ iSt k + 1 ≠ iSt k + 2 := by omega
section ST2
variable {M : Mem} {q : Nat} {P : Pg}
theorem st_put (h : StRep M q P) (hP : PgD P) {s b : Nat} (hs : s < gS P) (hb : b < gB P) (v : Int) : StRep (mw M (iSt q + 2) (s * 16 + b) (iz v)) q (pput P s b v) := by
  obtain ⟨h1, h2, h3, h4⟩ := h
  have b1 := hP.2
  refine ⟨by rw [mw_ne (by omega)]; exact h1, by rw [mw_ne (by omega)]; exact h2, fun j hj => by rw [mw_ne (by omega)]; exact h3 j hj, fun s' b' hs' hb' => ?_⟩
  have hs' : s' < gS P := hs'
  have hb' : b' < gB P := hb'
  rw [mw_at]
  show _ = iz (if s' = s ∧ b' = b then v else gC P s' b')
  by_cases e : s' = s ∧ b' = b
  · obtain ⟨rfl, rfl⟩ := e
    simp
  · rw [if_neg (by omega), if_neg e]
    exact h4 s' b' hs' hb'
theorem put_eq (h : StRep M q P) (hP : PgD P) {s b : Nat} (hs : s < gS P) (hb : b < gB P) (v : Int32) : f_X3_put q (iz s) (iz b) v M = some ((), mw M (iSt q + 2) (s * 16 + b) v) := by
  unfold f_X3_put
  have h1 := hP.1
  have h2 := hP.2
  rw [hasCell_eq h hP (by omega) (by omega) (by omega) (by omega), ob_some]
  simp (disch := omega) only [bz_0, iz_lit, iz_mul, iz_add, iz_inb, iz_cl]
  rw [if_neg (by omega), if_pos (by omega), show ((s : Int) * 16 + b).toNat = s * 16 + b by omega]
theorem put_out (h : StRep M q P) (hP : PgD P) {s b : Int} (s1 : -2147483648 ≤ s) (s2 : s < 2147483648) (b1 : -2147483648 ≤ b) (b2 : b < 2147483648) (ho : ¬ ((0 ≤ s ∧ s < gS P) ∧ 0 ≤ b ∧ b < gB P)) (v : Int32) : f_X3_put q (iz s) (iz b) v M = some ((), M) := by
  unfold f_X3_put
  rw [hasCell_eq h hP s1 s2 b1 b2, ob_some]
  simp only [iz_lit, bz_0]
  rw [if_pos ho]
/-- sounding: back to what isn't a hold -/
def snd (c : Nat → Int) : Nat → Int
  | 0 => if c 0 = 99 then -9 else c 0
  | b + 1 => if c (b + 1) = 99 then snd c b else c (b + 1)
theorem snd_rng {c : Nat → Int} {n : Nat} (h : ∀ b, b < n → cOk (c b)) : ∀ b, b < n → snd c b = -9 ∨ (0 ≤ snd c b ∧ snd c b ≤ 60)
  | 0, h0 => by
    have := h 0 h0
    unfold cOk at this
    unfold snd
    split <;> omega
  | b + 1, h0 => by
    have h1 := h (b + 1) h0
    have h2 := snd_rng h b (by omega)
    unfold cOk at h1
    unfold snd
    split <;> omega
theorem sounding_eq (h : StRep M q P) (hP : PgW P) {s b : Nat} (hs : s < gS P) (hb : b < gB P) : f_X3_sounding q (iz s) (iz b) M = some (iz (snd (gC P s) b), M) := by
  unfold f_X3_sounding
  have h1 := hP.1.1
  have h2 := hP.1.2
  refine Tot.eq ?_
  rw [show ((b : Nat) : Int) = ((b + 1 : Nat) : Int) - 1 by omega]
  refine dn_tot (fun i M' => M' = M ∧ i ≤ b + 1 ∧ snd (gC P s) b = if i = 0 then -9 else snd (gC P s) (i - 1)) ?_ ?_ 9999 (b + 1) M ⟨rfl, by omega, rfl⟩ (by omega)
  · intro k i M' ⟨e1, e2, e3⟩ hk
    subst e1
    unfold f_X3_sounding_b2
    have hc := cOk_lt (hP.2.2 s i hs (by omega))
    rw [written_nat h hP.1 hs (by omega), ob_some]
    simp (disch := omega) only [iz_lit, iz_neg, iz_add, iz_lt, iz_eq]
    rw [if_neg (by omega)]
    have e3 : snd (gC P s) b = snd (gC P s) i := e3
    by_cases e : gC P s i = 99
    · rw [if_pos e]
      refine hk M' ⟨rfl, by omega, ?_⟩
      rw [e3]
      cases i with
      | zero => unfold snd; rw [if_pos e]; rfl
      | succ i => rw [snd, if_pos e, if_neg (by omega)]; rfl
    · rw [if_neg e]
      refine Tot.mk ?_
      rw [e3]
      cases i with
      | zero => rw [snd, if_neg e]
      | succ i => rw [snd, if_neg e]
  · intro k M' ⟨e1, e2, e3⟩
    subst e1
    unfold f_X3_sounding_b2
    simp (disch := omega) only [iz_lit, iz_neg, iz_lt]
    rw [if_pos (by omega)]
    refine Tot.mk ?_
    rw [e3]; rfl
/-- a staff that isn't there sounds no more than a rest -/
theorem sounding_out (h : StRep M q P) (hP : PgW P) {s : Int} {b : Nat} (s1 : -2147483648 ≤ s) (s2 : s < 2147483648) (ho : ¬ (0 ≤ s ∧ s < gS P)) (hb : b < 2147483647) : f_X3_sounding q (iz s) (iz b) M = some (iz (-9), M) := by
  unfold f_X3_sounding
  obtain ⟨N, hN⟩ : ∃ N, 9999 = N + 1 := ⟨9998, rfl⟩
  rw [hN, lq1_s]
  unfold f_X3_sounding_b2
  rw [written_eq h hP.1 s1 s2 (by omega) (by omega), ob_some]
  have e : wr P s b = -9 := by unfold wr; rw [if_neg (by omega)]
  rw [e]
  simp (disch := omega) only [iz_lit, iz_lt, iz_eq]
  rw [if_neg (by omega), if_neg (by omega)]
/-- holds that follow no note become rests -/
def mnd (c : Nat → Int) : Nat → Int
  | 0 => if c 0 = 99 then -9 else c 0
  | b + 1 => if c (b + 1) = 99 ∧ mnd c b = -9 then -9 else c (b + 1)
def pmend (P : Pg) : Pg := (gE P, gS P, gB P, fun s b => mnd (gC P s) b)
theorem mnd_rng {c : Nat → Int} {n : Nat} (h : ∀ b, b < n → cOk (c b)) (b : Nat) (hb : b < n) : cOk (mnd c b) := by
  have h1 := h b hb
  cases b with
  | zero => unfold mnd; split; exact Or.inl rfl; exact h1
  | succ b => unfold mnd; split; exact Or.inl rfl; exact h1
theorem pmend_W {P : Pg} (h : PgW P) : PgW (pmend P) := by
  obtain ⟨h1, h3, h4⟩ := h
  exact ⟨h1, h3, fun s b hs hb => mnd_rng (n := gB P) (fun b' hb' => h4 s b' hs hb') b hb⟩
theorem pmend_Ok {P : Pg} (h : PgW P) : PgOk (pmend P) := by
  refine ⟨pmend_W h, fun s b hs hb h99 => ?_⟩
  have h99 : mnd (gC P s) b = 99 := h99
  cases b with
  | zero =>
    unfold mnd at h99
    split at h99
    · omega
    · exact absurd h99 (by assumption)
  | succ b =>
    refine ⟨by omega, ?_⟩
    show mnd (gC P s) b ≠ -9
    unfold mnd at h99
    split at h99
    · omega
    · rename_i hn
      exact fun e => hn ⟨h99, e⟩
/-- part of the way: rows before s, and row s before b -/
def pmp (P : Pg) (s b : Nat) : Pg := (gE P, gS P, gB P, fun s' b' => if s' < s ∨ (s' = s ∧ b' < b) then mnd (gC P s') b' else gC P s' b')
theorem pmp_W {P : Pg} (h : PgW P) (s b : Nat) : PgW (pmp P s b) := by
  refine ⟨h.1, h.2.1, fun s' b' hs hb => ?_⟩
  show cOk (if s' < s ∨ (s' = s ∧ b' < b) then mnd (gC P s') b' else gC P s' b')
  split
  · exact (pmend_W h).2.2 s' b' hs hb
  · exact h.2.2 s' b' hs hb
theorem dropLooseHolds_tot (h : StRep M q P) (hP : PgW P) : Tot (f_X3_dropLooseHolds q M) (fun r => StRep r.2 q (pmend P) ∧ Off (RSt q) M r.2) := by
  have h1 := hP.1.1
  have h2 := hP.1.2
  unfold f_X3_dropLooseHolds
  rw [iz_lit]
  refine up_tot (gS P) (fun s M' => StRep M' q (pmp P s 0) ∧ Off (RSt q) M M') ?_ ?_ 9999 0 M (by omega) ⟨h.to rfl rfl (fun _ _ => rfl) (fun s b hs hb => ?_), Off.rf⟩ (by omega)
  · intro k s M1 hs hJ hk
    unfold f_X3_dropLooseHolds_b2
    rw [hJ.1.1, show (gS (pmp P s 0)) = gS P from rfl]
    simp (disch := omega) only [iz_le]
    rw [if_neg (by omega), iz_lit]
    refine up_tot (gB P) (fun b M' => StRep M' q (pmp P s b) ∧ Off (RSt q) M M') ?_ ?_ 9999 0 M1 (by omega) hJ (by omega)
    · intro k2 b M2 hb hJ2 hk2
      unfold f_X3_dropLooseHolds_b12
      have hW := pmp_W hP s b
      have hc : gC (pmp P s b) s b = gC P s b := by
        show (if s < s ∨ (s = s ∧ b < b) then _ else _) = _
        rw [if_neg (by omega)]
      have hcr := cOk_lt (hP.2.2 s b hs hb)
      rw [hJ2.1.2.1, show gB (pmp P s b) = gB P from rfl, written_nat hJ2.1 hW.1 (s := s) (b := b) hs hb, ob_some, hc]
      simp (disch := omega) only [iz_lit, iz_neg, iz_le, iz_eq]
      rw [if_neg (by omega)]
      have hnext : ∀ M3, StRep M3 q (pmp P s (b + 1)) → Off (RSt q) M M3 → Tot (k2 (iz b + iz 1) M3) (fun r => StRep r.2 q (pmend P) ∧ Off (RSt q) M r.2) := fun M3 a c => by
        rw [iz_add]
        exact hk2 M3 ⟨a, c⟩
      have hsame : mnd (gC P s) b = gC P s b → StRep M2 q (pmp P s (b + 1)) := fun e => hJ2.1.to rfl rfl (fun _ _ => rfl) (fun s' b' hs' hb' => by
        show (if s' < s ∨ (s' = s ∧ b' < b + 1) then mnd (gC P s') b' else gC P s' b') = if s' < s ∨ (s' = s ∧ b' < b) then mnd (gC P s') b' else gC P s' b'
        by_cases e1 : s' = s ∧ b' = b
        · obtain ⟨rfl, rfl⟩ := e1
          rw [if_pos (by omega), if_neg (by omega), e]
        · by_cases e2 : s' < s ∨ (s' = s ∧ b' < b)
          · rw [if_pos (by omega), if_pos e2]
          · rw [if_neg (by omega), if_neg e2])
      by_cases e99 : gC P s b = 99
      · rw [if_pos e99, allowsHold_eq hJ2.1 hW (by omega) (by omega) (by omega) (by omega), ob_some]
        simp only [bz_0]
        have hprev : (wr (pmp P s b) s ((b : Int) - 1) = -9) = (b = 0 ∨ ∃ b0, b = b0 + 1 ∧ mnd (gC P s) b0 = -9) := by
          refine propext ⟨fun h => ?_, fun h => ?_⟩
          · cases b with
            | zero => exact Or.inl rfl
            | succ b0 =>
              refine Or.inr ⟨b0, rfl, ?_⟩
              rw [show ((b0 + 1 : Nat) : Int) - 1 = b0 by omega, wr_in (P := pmp P s (b0 + 1)) hs (by show b0 < gB P; omega)] at h
              have h : (if s < s ∨ (s = s ∧ b0 < b0 + 1) then mnd (gC P s) b0 else gC P s b0) = -9 := h
              rw [if_pos (by omega)] at h
              exact h
          · rcases h with rfl | ⟨b0, rfl, h⟩
            · unfold wr
              rw [if_neg (by omega)]
            · rw [show ((b0 + 1 : Nat) : Int) - 1 = b0 by omega, wr_in (P := pmp P s (b0 + 1)) hs (by show b0 < gB P; omega)]
              show (if s < s ∨ (s = s ∧ b0 < b0 + 1) then mnd (gC P s) b0 else gC P s b0) = -9
              rw [if_pos (by omega)]
              exact h
        by_cases hl : wr (pmp P s b) s ((b : Int) - 1) = -9
        · rw [if_pos (by simpa using hl), put_eq hJ2.1 hW.1 (s := s) (b := b) hs hb, ob_some]
          have hm : mnd (gC P s) b = -9 := by
            rw [hprev] at hl
            rcases hl with rfl | ⟨b0, rfl, hl⟩
            · unfold mnd; rw [if_pos e99]
            · unfold mnd; rw [if_pos ⟨e99, hl⟩]
          have hst := st_put hJ2.1 hW.1 (s := s) (b := b) hs hb (-9)
          refine hnext _ ?_ (hJ2.2.put ⟨by omega, by omega⟩)
          refine hst.to rfl rfl (fun _ _ => rfl) (fun s' b' hs' hb' => ?_)
          show (if s' < s ∨ (s' = s ∧ b' < b + 1) then mnd (gC P s') b' else gC P s' b') = if s' = s ∧ b' = b then -9 else if s' < s ∨ (s' = s ∧ b' < b) then mnd (gC P s') b' else gC P s' b'
          by_cases e1 : s' = s ∧ b' = b
          · obtain ⟨rfl, rfl⟩ := e1
            rw [if_pos (by omega), if_pos ⟨rfl, rfl⟩, hm]
          · rw [if_neg e1]
            by_cases e2 : s' < s ∨ (s' = s ∧ b' < b)
            · rw [if_pos (by omega), if_pos e2]
            · rw [if_neg (by omega), if_neg e2]
        · rw [if_neg (by simpa using hl)]
          refine hnext _ (hsame ?_) hJ2.2
          rw [hprev] at hl
          cases b with
          | zero => exact absurd (Or.inl rfl) hl
          | succ b0 =>
            unfold mnd
            rw [if_neg (fun z => hl (Or.inr ⟨b0, rfl, z.2⟩))]
      · rw [if_neg e99]
        refine hnext _ (hsame ?_) hJ2.2
        cases b with
        | zero => unfold mnd; rw [if_neg e99]
        | succ b0 => unfold mnd; rw [if_neg (fun z => e99 z.1)]
    · intro k2 M2 hJ2
      unfold f_X3_dropLooseHolds_b12
      rw [hJ2.1.2.1, show gB (pmp P s (gB P)) = gB P from rfl]
      simp (disch := omega) only [iz_le]
      rw [if_pos (by omega), iz_lit, iz_add]
      refine hk M2 ⟨hJ2.1.to rfl rfl (fun _ _ => rfl) (fun s' b' hs' hb' => ?_), hJ2.2⟩
      have hb' : b' < gB P := hb'
      show (if s' < s + 1 ∨ (s' = s + 1 ∧ b' < 0) then mnd (gC P s') b' else gC P s' b') = if s' < s ∨ (s' = s ∧ b' < gB P) then mnd (gC P s') b' else gC P s' b'
      by_cases e2 : s' < s + 1
      · rw [if_pos (by omega), if_pos (by omega)]
      · rw [if_neg (by omega), if_neg (by omega)]
  · intro k M1 hJ
    unfold f_X3_dropLooseHolds_b2
    rw [hJ.1.1, show gS (pmp P (gS P) 0) = gS P from rfl]
    simp (disch := omega) only [iz_le]
    rw [if_pos (by omega)]
    refine Tot.mk ⟨hJ.1.to rfl rfl (fun _ _ => rfl) (fun s' b' hs' hb' => ?_), hJ.2⟩
    have hs' : s' < gS P := hs'
    show mnd (gC P s') b' = if s' < gS P ∨ (s' = gS P ∧ b' < 0) then mnd (gC P s') b' else gC P s' b'
    rw [if_pos (by omega)]
  · show (if s < 0 ∨ (s = 0 ∧ b < 0) then mnd (gC P s) b else gC P s b) = gC P s b
    rw [if_neg (by omega)]
end ST2
