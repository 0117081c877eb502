theorem im1 (i : Nat) (h : 0 < i) : iz (i : Int) + -1 = iz ((i - 1 : Nat) : Int) := by
  rw [show (-1 : Int32) = iz (-1) from rfl, iz_add]
  congr 1
  omega
/-- the cells of a page as a table -/
def QR (M : Mem) (r : Nat) (c : Nat → Nat → Int) (S B : Nat) : Prop := ∀ s b, s < S → b < B → M r (8 + (16 * s + b)) = iz (c s b)
theorem QR.put {M : Mem} {r S B s b : Nat} {c c' : Nat → Nat → Int} (h : QR M r c S B) (hB : B ≤ 16) (hb : b < 16) (v : Int) (hc : ∀ s' b', s' < S → b' < B → c' s' b' = if s' = s ∧ b' = b then v else c s' b') : QR (mw M r (8 + (16 * s + b)) (iz v)) r c' S B := fun s' b' hs' hb' => by
  rw [mw_at, hc s' b' hs' hb']
  by_cases e : s' = s ∧ b' = b
  · rw [if_pos e, if_pos (by omega)]
  · rw [if_neg e, if_neg (by omega)]; exact h s' b' hs' hb'
theorem QR.to {M : Mem} {r S B : Nat} {c c' : Nat → Nat → Int} (h : QR M r c S B) (hc : ∀ s' b', s' < S → b' < B → c' s' b' = c s' b') : QR M r c' S B := fun s' b' hs' hb' => by
  rw [hc s' b' hs' hb']; exact h s' b' hs' hb'
theorem popn_W {P : Pg} (h : PgW P) (h16 : gB P < 16) {t : Nat} (ht : t ≤ gB P) : PgW (popn P t) := by
  refine ⟨⟨h.1.1, ?_⟩, h.2.1, fun s b hs hb => ?_⟩
  · show 1 ≤ gB P + 1 ∧ gB P + 1 ≤ 16
    omega
  · have hs : s < gS P := hs
    have hb : b < gB P + 1 := hb
    show cOk (if b < t then gC P s b else if b = t then -9 else gC P s (b - 1))
    by_cases c : b < t
    · rw [if_pos c]; exact h.2.2 s b hs (by omega)
    · rw [if_neg c]
      by_cases d : b = t
      · rw [if_pos d]; exact Or.inl rfl
      · rw [if_neg d]; exact h.2.2 s (b - 1) hs (by omega)
theorem pcls_W {P : Pg} (h : PgW P) (h1 : 1 < gB P) (t : Nat) : PgW (pcls P t) := by
  have := h.1.2
  refine ⟨⟨h.1.1, ?_⟩, h.2.1, fun s b hs hb => ?_⟩
  · show 1 ≤ gB P - 1 ∧ gB P - 1 ≤ 16
    omega
  · have hs : s < gS P := hs
    have hb : b < gB P - 1 := hb
    show cOk (if b < t then gC P s b else gC P s (b + 1))
    by_cases c : b < t
    · rw [if_pos c]; exact h.2.2 s b hs (by omega)
    · rw [if_neg c]; exact h.2.2 s (b + 1) hs (by omega)
section DB
variable {M : Mem} {r t : Nat} {P : Pg}
theorem mdrop_tot (h : PR M r 0 P) (hP : PgW P) (hl : lnA r = 72) (h1 : 1 < gB P) (ht : t < gB P) : Tot (f_X6_dropBeat r (iz t) M) (fun x => PR x.2 r 0 (pmend (pcls P t)) ∧ Off (fun d => d = r) M x.2) := by
  have hS := hP.1.1
  have hB := hP.1.2
  have i6 : inb 6 (lnA r) := by rw [hl]; decide
  have i7 : inb 7 (lnA r) := by rw [hl]; decide
  have nc : ∀ s b, gC (pcls P t) s b = if b < t then gC P s b else gC P s (b + 1) := fun _ _ => rfl
  unfold f_X6_dropBeat
  rw [show (0 : Int32) = iz ((0 : Nat) : Int) from rfl]
  refine up_tot (gS P) (fun s M' => (∀ s' b', s' < gS P → b' < gB P → (s' < s → b' < gB P - 1 → M' r (8 + (16 * s' + b')) = iz (gC (pcls P t) s' b')) ∧ (s ≤ s' → M' r (8 + (16 * s' + b')) = iz (gC P s' b'))) ∧ (∀ j, j < 8 → M' r j = M r j) ∧ Off (fun d => d = r) M M') ?_ ?_ 9999 0 M (by omega) ⟨fun s' b' hs' hb' => ⟨fun z => absurd z (Nat.not_lt_zero _), fun _ => h.C hs' hb'⟩, fun _ _ => rfl, Off.rf⟩ (by omega)
  · intro K s M1 hs ⟨j1, j2, j3⟩ hK
    unfold f_X6_dropBeat_b2
    rw [if_pos i6, c6, j2 6 (by omega), h.S, if_neg (by rw [lez (by omega) (by omega)]; omega)]
    refine up_tot (gB P - 1) (fun k M' => t ≤ k ∧ (∀ s' b', s' < gS P → b' < gB P → (s' < s → b' < gB P - 1 → M' r (8 + (16 * s' + b')) = iz (gC (pcls P t) s' b')) ∧ (s' = s → (b' < k → M' r (8 + (16 * s' + b')) = iz (gC (pcls P t) s' b')) ∧ (k ≤ b' → M' r (8 + (16 * s' + b')) = iz (gC P s' b'))) ∧ (s < s' → M' r (8 + (16 * s' + b')) = iz (gC P s' b'))) ∧ (∀ j, j < 8 → M' r j = M r j) ∧ Off (fun d => d = r) M M') ?_ ?_ 9999 t M1 (by omega) ⟨Nat.le_refl t, fun s' b' hs' hb' => ⟨(j1 s' b' hs' hb').1, fun e => ⟨fun z => ?_, fun z => (j1 s' b' hs' hb').2 (by omega)⟩, fun e => (j1 s' b' hs' hb').2 (by omega)⟩, j2, j3⟩ (by omega)
    · intro K2 k M2 hk ⟨htk, q1, q2, q3⟩ hK2
      unfold f_X6_dropBeat_b12
      have hx := pg_lt hP.1 hs (b := k) (by omega)
      have hx1 := pg_lt hP.1 hs (b := k + 1) (by omega)
      have cell : M2 r (8 + (16 * s + (k + 1))) = iz (gC P s (k + 1)) := ((q1 s (k + 1) hs (by omega)).2.1 rfl).2 (by omega)
      rw [if_pos i7, c7, q2 7 (by omega), h.B, a1z, if_neg (by rw [lez (by omega) (by omega)]; omega), at_eq, ob_some, at_eq, ob_some, l8, l8, hl, if_pos (inb_n (n := 8 + (16 * s + (k + 1))) (by omega) (by omega)), if_pos (inb_n (n := 8 + (16 * s + k)) (by omega) (by omega)), cl_n (n := 8 + (16 * s + (k + 1))) (by omega), cl_n (n := 8 + (16 * s + k)) (by omega), cell]
      refine hK2 _ ⟨by omega, fun s' b' hs' hb' => ⟨fun z1 z2 => ?_, fun e => ⟨fun z => ?_, fun z => ?_⟩, fun z => ?_⟩, fun j hj => ?_, q3.put rfl⟩
      · rw [mw_at, if_neg (by omega)]; exact (q1 s' b' hs' hb').1 z1 z2
      · rw [mw_at]
        by_cases e2 : b' = k
        · rw [if_pos (by omega), nc, if_neg (by omega), e, e2]
        · rw [if_neg (by omega)]; exact ((q1 s' b' hs' hb').2.1 e).1 (by omega)
      · rw [mw_at, if_neg (by omega)]; exact ((q1 s' b' hs' hb').2.1 e).2 (by omega)
      · rw [mw_at, if_neg (by omega)]; exact (q1 s' b' hs' hb').2.2 z
      · rw [mw_at, if_neg (by omega)]; exact q2 j hj
    · intro K2 M2 ⟨_, q1, q2, q3⟩
      unfold f_X6_dropBeat_b12 f_X6_dropBeat_b50
      have hx := pg_lt hP.1 hs (b := gB P - 1) (by omega)
      rw [if_pos i7, c7, q2 7 (by omega), h.B, a1z, if_pos (by rw [lez (by omega) (by omega)]; omega), if_pos i7, pm1 _ (by omega), at_eq, ob_some, l8, hl, if_pos (inb_n (n := 8 + (16 * s + (gB P - 1))) (by omega) (by omega)), cl_n (n := 8 + (16 * s + (gB P - 1))) (by omega), a1z]
      refine hK _ ⟨fun s' b' hs' hb' => ⟨fun z1 z2 => ?_, fun z => ?_⟩, fun j hj => ?_, q3.put rfl⟩
      · rw [mw_at, if_neg (by omega)]
        by_cases e : s' = s
        · exact ((q1 s' b' hs' hb').2.1 e).1 z2
        · exact (q1 s' b' hs' hb').1 (by omega) z2
      · rw [mw_at, if_neg (by omega)]; exact (q1 s' b' hs' hb').2.2 (by omega)
      · rw [mw_at, if_neg (by omega)]; exact q2 j hj
    · rw [nc, if_pos z]; exact (j1 s' b' hs' hb').2 (by omega)
  · intro K M1 ⟨j1, j2, j3⟩
    unfold f_X6_dropBeat_b2 f_X6_dropBeat_b73
    rw [if_pos i6, c6, j2 6 (by omega), h.S, if_pos (Int32.le_refl _), if_pos i7, if_pos i7, c7, j2 7 (by omega), h.B, pm1 _ (by omega)]
    have hp : PR (mw M1 r 7 (iz ((gB P - 1 : Nat) : Int))) r 0 (pcls P t) := by
      refine ⟨fun j hj => ?_, ?_, ?_, fun s b hs hb => ?_⟩
      · rw [mw_at, if_neg (by omega), j2 _ (by omega)]; exact h.1 j hj
      · rw [mw_at, if_neg (by omega), j2 _ (by omega)]; exact h.2.1
      · rw [mw_at, if_pos rfl]; rfl
      · have hs : s < gS P := hs
        have hb : b < gB P - 1 := hb
        rw [mw_at, if_neg (by omega), Nat.zero_add]
        exact (j1 s b hs (by omega)).1 hs hb
    refine Tot.ob ((mend_tot hp (pcls_W hP h1 t) hl).mono ?_)
    intro ⟨_, M2⟩ ⟨a, o⟩
    exact Tot.mk ⟨a, (j3.put rfl).tr o⟩
end DB
theorem mopen_tot {M : Mem} {t : Nat} {P : Pg} (h : PR M 30 0 P) (hP : PgW P) (h16 : gB P < 16) (ht : t ≤ gB P) : Tot (lq1 (f_X6_insertBeat_b53 (iz t)) 9999 0 M) (fun x => x.1 = iz ((gB P + 1 : Nat) : Int) ∧ PR x.2 30 0 (pmend (popn P t)) ∧ Off (fun d => d = 30) M x.2) := by
  have hS := hP.1.1
  have hB := hP.1.2
  have i6 : inb 6 72 := by decide
  have i7 : inb 7 72 := by decide
  have nc : ∀ s b, gC (popn P t) s b = if b < t then gC P s b else if b = t then -9 else gC P s (b - 1) := fun _ _ => rfl
  rw [show (0 : Int32) = iz ((0 : Nat) : Int) from rfl]
  refine up_tot (gS P) (fun s M' => (∀ s' b', s' < gS P → b' ≤ gB P → (s' < s → M' 30 (8 + (16 * s' + b')) = iz (gC (popn P t) s' b')) ∧ (s ≤ s' → b' < gB P → M' 30 (8 + (16 * s' + b')) = iz (gC P s' b'))) ∧ (∀ j, j < 8 → M' 30 j = M 30 j) ∧ Off (fun d => d = 30) M M') ?_ ?_ 9999 0 M (by omega) ⟨fun s' b' hs' hb' => ⟨fun z => absurd z (Nat.not_lt_zero _), fun _ z => h.C hs' z⟩, fun _ _ => rfl, Off.rf⟩ (by omega)
  · intro K s M1 hs ⟨j1, j2, j3⟩ hK
    unfold f_X6_insertBeat_b53
    rw [if_pos i6, c6, j2 6 (by omega), h.S, if_neg (by rw [lez (by omega) (by omega)]; omega), if_pos i7, c7, j2 7 (by omega), h.B]
    refine dnto_tot t (fun k M' => k ≤ gB P ∧ (∀ s' b', s' < gS P → b' ≤ gB P → (s' < s → M' 30 (8 + (16 * s' + b')) = iz (gC (popn P t) s' b')) ∧ (s' = s → (k < b' → M' 30 (8 + (16 * s' + b')) = iz (gC P s' (b' - 1))) ∧ (b' ≤ k → b' < gB P → M' 30 (8 + (16 * s' + b')) = iz (gC P s' b'))) ∧ (s < s' → b' < gB P → M' 30 (8 + (16 * s' + b')) = iz (gC P s' b'))) ∧ (∀ j, j < 8 → M' 30 j = M 30 j) ∧ Off (fun d => d = 30) M M') ?_ ?_ 9999 (gB P) M1 ht ⟨Nat.le_refl _, fun s' b' hs' hb' => ⟨(j1 s' b' hs' hb').1, fun e => ⟨fun z => absurd z (by omega), fun _ z => (j1 s' b' hs' hb').2 (by omega) z⟩, fun e => (j1 s' b' hs' hb').2 (by omega)⟩, j2, j3⟩ (by omega)
    · intro K2 k M2 hk ⟨hkB, q1, q2, q3⟩ hK2
      unfold f_X6_insertBeat_b72
      have cell : M2 30 (8 + (16 * s + (k - 1))) = iz (gC P s (k - 1)) := ((q1 s (k - 1) hs (by omega)).2.1 rfl).2 (by omega) (by omega)
      rw [if_neg (by rw [lez (by omega) (by omega)]; omega), at_eq, ob_some, pm1 _ (by omega), at_eq, ob_some, l8, l8, if_pos (inb_n (n := 8 + (16 * s + (k - 1))) (by omega) (by omega)), if_pos (inb_n (n := 8 + (16 * s + k)) (by omega) (by omega)), cl_n (n := 8 + (16 * s + (k - 1))) (by omega), cl_n (n := 8 + (16 * s + k)) (by omega), cell, im1 _ (by omega)]
      refine hK2 _ ⟨by omega, fun s' b' hs' hb' => ⟨fun z1 => ?_, fun e => ⟨fun z => ?_, fun z z2 => ?_⟩, fun z z2 => ?_⟩, fun j hj => ?_, q3.put rfl⟩
      · rw [mw_at, if_neg (by omega)]; exact (q1 s' b' hs' hb').1 z1
      · rw [mw_at]
        by_cases e2 : b' = k
        · rw [if_pos (by omega), e, e2]
        · rw [if_neg (by omega)]; exact ((q1 s' b' hs' hb').2.1 e).1 (by omega)
      · rw [mw_at, if_neg (by omega)]; exact ((q1 s' b' hs' hb').2.1 e).2 (by omega) z2
      · rw [mw_at, if_neg (by omega)]; exact (q1 s' b' hs' hb').2.2 z z2
      · rw [mw_at, if_neg (by omega)]; exact q2 j hj
    · intro K2 M2 ⟨_, q1, q2, q3⟩
      unfold f_X6_insertBeat_b72 f_X6_insertBeat_b111
      rw [if_pos (Int32.le_refl _), at_eq, ob_some, l8, if_pos (inb_n (n := 8 + (16 * s + t)) (by omega) (by omega)), cl_n (n := 8 + (16 * s + t)) (by omega), a1z]
      refine hK _ ⟨fun s' b' hs' hb' => ⟨fun z1 => ?_, fun z z2 => ?_⟩, fun j hj => ?_, q3.put rfl⟩
      · rw [mw_at]
        by_cases e : s' = s
        · rw [nc]
          by_cases e2 : b' < t
          · rw [if_neg (by omega), if_pos e2]; exact ((q1 s' b' hs' hb').2.1 e).2 (by omega) (by omega)
          · rw [if_neg e2]
            by_cases e3 : b' = t
            · rw [if_pos (by omega), if_pos e3]; rfl
            · rw [if_neg (by omega), if_neg e3]; exact ((q1 s' b' hs' hb').2.1 e).1 (by omega)
        · rw [if_neg (by omega)]; exact (q1 s' b' hs' hb').1 (by omega)
      · rw [mw_at, if_neg (by omega)]; exact (q1 s' b' hs' hb').2.2 (by omega) z2
      · rw [mw_at, if_neg (by omega)]; exact q2 j hj
  · intro K M1 ⟨j1, j2, j3⟩
    unfold f_X6_insertBeat_b53 f_X6_insertBeat_b132
    rw [if_pos i6, c6, j2 6 (by omega), h.S, if_pos (Int32.le_refl _), if_pos i7, if_pos i7, c7, j2 7 (by omega), h.B, a1z]
    have hp : PR (mw M1 30 7 (iz ((gB P + 1 : Nat) : Int))) 30 0 (popn P t) := by
      refine ⟨fun j hj => ?_, ?_, ?_, fun s b hs hb => ?_⟩
      · rw [mw_at, if_neg (by omega), j2 _ (by omega)]; exact h.1 j hj
      · rw [mw_at, if_neg (by omega), j2 _ (by omega)]; exact h.2.1
      · rw [mw_at, if_pos rfl]; rfl
      · have hs : s < gS P := hs
        have hb : b < gB P + 1 := hb
        rw [mw_at, if_neg (by omega), Nat.zero_add]
        exact (j1 s b hs (by omega)).1 hs
    refine Tot.ob ((mend_tot hp (popn_W hP h16 ht) rfl).mono ?_)
    intro ⟨_, M2⟩ ⟨a, o⟩
    have a : PR M2 30 0 (pmend (popn P t)) := a
    show Tot (if inb 7 72 then some (M2 30 (Int32.toNatClampNeg 7), M2) else none) _
    rw [if_pos i7, c7, a.B]
    exact Tot.mk ⟨rfl, a, (j3.put rfl).tr o⟩
theorem g_insertBeat (D : Ds) (hD : DOk D) (x : Int32) : Agree h_L_insertBeat (f_X5_insertBeat x) (f_X6_insertBeat x) D := by
  obtain ⟨v, rfl, v1, v2⟩ := izself x
  have hP := hD.2.2.1
  have hB := hP.1.1.2
  have i7 : inb 7 72 := by decide
  have l0 : (iz v < 0) = (v < 0) := by rw [show (0 : Int32) = iz 0 from rfl, iz_lt v1 v2 (by omega) (by omega)]
  have lB : (iz v ≤ iz (gB (dP D) : Int)) = (v ≤ gB (dP D)) := iz_le v1 v2 (by omega) (by omega)
  have l16 : (iz (gB (dP D) : Int) < 16) = (gB (dP D) < 16) := by rw [show (16 : Int32) = iz ((16 : Nat) : Int) from rfl, ltz (by omega) (by omega)]
  have e16 : (iz (gB (dP D) : Int) = 16) = (gB (dP D) = 16) := by
    rw [show (16 : Int32) = iz 16 from rfl, iz_eq (by omega) (by omega) (by omega) (by omega)]
    exact propext ⟨fun h => by omega, fun h => by omega⟩
  have mi : ∀ M, f_X6_in (Int32.toInt64 (iz v)) 0 (Int32.toInt64 (iz (gB (dP D) : Int))) M = some (bz (0 ≤ v ∧ v ≤ gB (dP D)), M) := fun M => by
    rw [show (0 : Int64) = Int32.toInt64 (iz 0) by decide, in_eq M v1 v2 (by omega) (by omega) (by omega) (by omega)]
  have no : ∀ (M : Mem) (n : Nat), 0 < n → n < 100 → f_X6_insertBeat_b39 (iz v) (iz n) M = some (0, mw M 27 0 (iz n)) := fun M n h1 h2 => by
    unfold f_X6_insertBeat_b39
    exact ref_no h1 h2 M _ _
  by_cases c : 0 ≤ v ∧ v ≤ gB (dP D)
  · obtain ⟨t, rfl⟩ : ∃ t : Nat, v = (t : Int) := ⟨v.toNat, by omega⟩
    have ht : t ≤ gB (dP D) := by omega
    by_cases k : gB (dP D) < 16
    · refine Agree.yes (D' := dPut (dRem D) (pmend (popn (dP D) t))) (dPut_Ok (dRem_Ok hD) (pmend_Ok (popn_W hP.1 k ht))) (iz ((gB (dP D) + 1 : Nat) : Int)) (fun M hM => ?_) (fun M hM => ?_)
      · unfold f_X5_insertBeat
        rw [if_neg (by rw [l0]; omega), hM.2.1.2.1, if_pos (by rw [lB]; omega), if_pos (by rw [l16]; exact k)]
        refine c_act hM hD _ (fun _ M2 h2 => ?_)
        refine Tot.ob ((openBeat_tot h2 hP.1.1 k ht).mono ?_)
        intro ⟨_, M3⟩ ⟨a, o⟩
        refine Tot.ob ((dropLooseHolds_tot a (popn_W hP.1 k ht)).mono ?_)
        intro ⟨_, M4⟩ ⟨a4, o4⟩
        exact Tot.mk ⟨congrArg _ a4.2.1, a4, Off.tr o o4⟩
      · unfold f_X6_insertBeat
        rw [if_pos i7, c7, hM.2.1.B, mi, ob_some, if_neg (by rw [bz_t c]; decide), if_pos i7, hM.2.1.B, if_neg (by rw [e16]; omega)]
        unfold f_X6_insertBeat_b39
        rw [ref_yes]
        exact m_go hM hD _ (fun _ M2 h2 => mopen_tot h2 hP.1 k ht)
    · refine Agree.no hD 1 2 rfl (by omega) (fun M hM => ?_) (fun M hM => ?_)
      · unfold f_X5_insertBeat
        rw [if_neg (by rw [l0]; omega), hM.2.1.2.1, if_pos (by rw [lB]; omega), if_neg (by rw [l16]; exact k)]
      · unfold f_X6_insertBeat
        rw [if_pos i7, c7, hM.2.1.B, mi, ob_some, if_neg (by rw [bz_t c]; decide), if_pos i7, hM.2.1.B, if_pos (by rw [e16]; omega)]
        exact ⟨_, no M 2 (by omega) (by omega)⟩
  · refine Agree.no hD 2 1 rfl (by omega) (fun M hM => ?_) (fun M hM => ?_)
    · unfold f_X5_insertBeat
      rw [hM.2.1.2.1]
      by_cases d : v < 0
      · rw [if_pos (by rw [l0]; exact d)]
      · rw [if_neg (by rw [l0]; exact d), if_neg (by rw [lB]; omega)]
    · unfold f_X6_insertBeat
      rw [if_pos i7, c7, hM.2.1.B, mi, ob_some, if_pos (show bz (0 ≤ v ∧ v ≤ gB (dP D)) = 0 from bz_f c)]
      exact ⟨_, no M 1 (by omega) (by omega)⟩
theorem g_removeBeat (D : Ds) (hD : DOk D) (x : Int32) : Agree h_L_removeBeat (f_X5_removeBeat x) (f_X6_removeBeat x) D := by
  obtain ⟨v, rfl, v1, v2⟩ := izself x
  have hP := hD.2.2.1
  have hB := hP.1.1.2
  have i7 : inb 7 72 := by decide
  have l1 : ((1 : Int32) < iz (gB (dP D) : Int)) = (1 < gB (dP D)) := by rw [show (1 : Int32) = iz ((1 : Nat) : Int) from rfl, ltz (by omega) (by omega)]
  have e1 : (iz (gB (dP D) : Int) = 1) = (gB (dP D) = 1) := by
    rw [show (1 : Int32) = iz 1 from rfl, iz_eq (by omega) (by omega) (by omega) (by omega)]
    exact propext ⟨fun h => by omega, fun h => by omega⟩
  have rb : ∀ M, CRel M D → f_X5_requireBeat (iz v) M = if 0 ≤ v ∧ v < gB (dP D) then some (.ok (), M) else some (.error 2, M) := fun M hM => reqBeat hM hD v1 v2
  have mb : ∀ M, MRel M D → f_X6_isBeat 30 (iz v) M = some (bz (0 ≤ v ∧ v < gB (dP D)), M) := fun M hM => isBeat_eq hM.2.1 hP.1.1 rfl v1 v2
  have no : ∀ (M : Mem) (n : Nat), 0 < n → n < 100 → f_X6_removeBeat_b32 (iz v) (iz n) M = some (0, mw M 27 0 (iz n)) := fun M n h1 h2 => by
    unfold f_X6_removeBeat_b32
    exact ref_no h1 h2 M _ _
  by_cases c : 0 ≤ v ∧ v < gB (dP D)
  · obtain ⟨t, rfl⟩ : ∃ t : Nat, v = (t : Int) := ⟨v.toNat, by omega⟩
    have ht : t < gB (dP D) := by omega
    by_cases k : 1 < gB (dP D)
    · refine Agree.yes (D' := dPut (dRem D) (pmend (pcls (dP D) t))) (dPut_Ok (dRem_Ok hD) (pmend_Ok (pcls_W hP.1 k t))) (iz ((gB (dP D) - 1 : Nat) : Int)) (fun M hM => ?_) (fun M hM => ?_)
      · unfold f_X5_removeBeat
        rw [rb M hM, if_pos c, oe_ok, hM.2.1.2.1, if_pos (by rw [l1]; exact k)]
        refine c_act hM hD _ (fun _ M2 h2 => ?_)
        refine Tot.ob ((closeBeat_tot h2 hP.1.1 k ht).mono ?_)
        intro ⟨_, M3⟩ ⟨a, o⟩
        refine Tot.ob ((dropLooseHolds_tot a (pcls_W hP.1 k t)).mono ?_)
        intro ⟨_, M4⟩ ⟨a4, o4⟩
        exact Tot.mk ⟨congrArg _ a4.2.1, a4, Off.tr o o4⟩
      · unfold f_X6_removeBeat
        rw [mb M hM, ob_some, if_neg (by rw [bz_t c]; decide), if_pos i7, c7, hM.2.1.B, if_neg (by rw [e1]; omega)]
        unfold f_X6_removeBeat_b32
        rw [ref_yes]
        refine m_go hM hD _ (fun _ M2 h2 => ?_)
        refine Tot.ob ((mdrop_tot h2 hP.1 rfl k ht).mono ?_)
        intro ⟨_, M3⟩ ⟨a, o⟩
        have a : PR M3 30 0 (pmend (pcls (dP D) t)) := a
        show Tot (if inb 7 72 then some (M3 30 (Int32.toNatClampNeg 7), M3) else none) _
        rw [if_pos i7, c7, a.B]
        exact Tot.mk ⟨rfl, a, o⟩
    · refine Agree.no hD 1 2 rfl (by omega) (fun M hM => ?_) (fun M hM => ?_)
      · unfold f_X5_removeBeat
        rw [rb M hM, if_pos c, oe_ok, hM.2.1.2.1, if_neg (by rw [l1]; exact k)]
      · unfold f_X6_removeBeat
        rw [mb M hM, ob_some, if_neg (by rw [bz_t c]; decide), if_pos i7, c7, hM.2.1.B, if_pos (by rw [e1]; omega)]
        exact ⟨_, no M 2 (by omega) (by omega)⟩
  · refine Agree.no hD 2 1 rfl (by omega) (fun M hM => ?_) (fun M hM => ?_)
    · unfold f_X5_removeBeat
      rw [rb M hM, if_neg c, oe_er]
    · unfold f_X6_removeBeat
      rw [mb M hM, ob_some, if_pos (show bz (0 ≤ v ∧ v < gB (dP D)) = 0 from bz_f c)]
      exact ⟨_, no M 1 (by omega) (by omega)⟩
