def MLs (M : Mem) (P : Pg) : Prop := ∀ b, b < gB P → ML M P b
section MO
variable {M : Mem} {r b : Nat} {P : Pg}
theorem rho_RO (P : Pg) (b : Nat) : RO P b (rho P b) := RO_drp P b (tF P b)
theorem mnn4 (h : ML M P b) : nn P b ≤ 4 := row_n4 h.2.1.2.2
theorem placeOf_eq (h : ML M P b) (hP : PgD P) (hb : b < gB P) {s : Nat} (hs : s < 4) : ∃ x, f_X6_placeOf (iz s) (iz b) M = some (x, M) ∧ ((x = iz (-9) ∧ ¬ lfP (rR P b (rho P b)) (nn P b) s) ∨ ∃ i, i < nn P b ∧ rR P b (rho P b) i = s ∧ x = iz (i : Nat)) := by
  have n4 := mnn4 h
  have h2 := hP.2
  have hW := h.2.1
  have : Tot (f_X6_placeOf (iz s) (iz b) M) (fun y => y.2 = M ∧ ((y.1 = iz (-9) ∧ ¬ lfP (rR P b (rho P b)) (nn P b) s) ∨ ∃ i, i < nn P b ∧ rR P b (rho P b) i = s ∧ y.1 = iz (i : Nat))) := by
    unfold f_X6_placeOf
    rw [show (0 : Int32) = iz ((0 : Nat) : Int) from rfl]
    refine up_tot (nn P b) (fun k M' => M' = M ∧ ¬ lfP (rR P b (rho P b)) k s) ?_ ?_ 9999 0 M (by omega) ⟨rfl, fun ⟨m, a, _⟩ => Nat.not_lt_zero m a⟩ (by omega)
    · intro K k M' hk ⟨e1, e2⟩ hK
      subst e1
      unfold f_X6_placeOf_b2
      have hr := (hW.2.2.1 k hk).1
      have n0 : M' 39 b = iz (nn P b) := hW.1
      rw [if_pos (inb_n (n := b) (by omega) (by omega)), cl_n (n := b) (by omega), n0, if_neg (by rw [lez (by omega) (by omega)]; omega), ix4, if_pos (inb_n (n := 4 * b + k) (by omega) (by omega)), cl_n (n := 4 * b + k) (by omega), hW.2.1 k hk, a1z]
      have ee : (iz (rR P b (rho P b) k : Int) = iz (s : Int)) = (rR P b (rho P b) k = s) := by
        rw [iz_eq (by omega) (by omega) (by omega) (by omega)]
        exact propext ⟨fun h => by omega, fun h => by omega⟩
      by_cases c : rR P b (rho P b) k = s
      · rw [if_pos (by rw [ee]; exact c)]
        exact Tot.mk ⟨rfl, Or.inr ⟨k, hk, c, rfl⟩⟩
      · rw [if_neg (by rw [ee]; exact c)]
        refine hK _ ⟨rfl, fun ⟨m, a, z⟩ => ?_⟩
        by_cases d : m = k
        · rw [d] at z; exact c z
        · exact e2 ⟨m, by omega, z⟩
    · intro K M' ⟨e1, e2⟩
      subst e1
      unfold f_X6_placeOf_b2
      have n0 : M' 39 b = iz (nn P b) := hW.1
      rw [if_pos (inb_n (n := b) (by omega) (by omega)), cl_n (n := b) (by omega), n0, if_pos (Int32.le_refl _)]
      exact Tot.mk ⟨rfl, Or.inl ⟨rfl, e2⟩⟩
  obtain ⟨⟨x, M'⟩, e, hM, hx⟩ := this
  have hM : M' = M := hM
  subst hM
  exact ⟨x, e, hx⟩
noncomputable def hv (P : Pg) (b k s : Nat) : Int := if lb P b (nn P b) s then (if lb P b k s then 0 else 1) else -9
theorem handOf_eq (h : ML M P b) (hP : PgD P) (hb : b < gB P) {s k : Nat} (hs : s < 4) (hk : k ≤ nn P b) : f_X6_handOf (iz s) (iz b) (iz k) M = some (iz (hv P b k s), M) := by
  have n4 := mnn4 h
  unfold f_X6_handOf hv
  obtain ⟨x, e, hx⟩ := placeOf_eq h hP hb hs
  rw [e, ob_some]
  have hW := h.2.1
  rcases hx with ⟨hx, hn⟩ | ⟨i, hi, hr, hx⟩
  · rw [hx, if_pos (show iz (-9) = (-9 : Int32) from rfl), if_neg]
    · rfl
    · unfold lb lf
      exact fun z => hn (of_decide_eq_true z)
  · have l1 : lb P b (nn P b) s = true := by
      unfold lb lf
      exact decide_eq_true ⟨i, hi, hr⟩
    have e9 : ¬ (iz (i : Int) = -9) := by rw [show (-9 : Int32) = iz (-9) from rfl, iz_eq (by omega) (by omega) (by omega) (by omega)]; omega
    rw [hx, if_neg e9, if_pos l1]
    have l2 : (lb P b k s = true) = (i < k) := by
      unfold lb lf
      rw [decide_eq_true_eq]
      refine propext ⟨fun ⟨m, hm, z⟩ => ?_, fun z => ⟨i, z, hr⟩⟩
      rcases Nat.lt_trichotomy m i with c | c | c
      · have := hW.2.2.2.2 m i c hi
        rw [z, hr] at this
        omega
      · omega
      · have := hW.2.2.2.2 i m c (by unfold nn at hk; omega)
        rw [z, hr] at this
        omega
    by_cases c : k ≤ i
    · rw [if_pos (by rw [lez (by omega) (by omega)]; exact c), if_neg (by rw [l2]; omega)]
      rfl
    · rw [if_neg (by rw [lez (by omega) (by omega)]; exact c), if_pos (by rw [l2]; omega)]
      rfl
theorem hv_rng (P : Pg) (b k s : Nat) : -9 ≤ hv P b k s ∧ hv P b k s ≤ 1 := by
  unfold hv
  repeat' split
  all_goals omega
theorem isCut_eq (h : PR M r 0 P) (hL : MLs M P) (hP : PgOk P) (hl : lnA r = 72) (hb : b < gB P) {s k k' : Nat} (hs : s < gS P) (hk : k ≤ nn P b) (hk' : okB P b k') : f_X6_isCut r (iz s) (iz b) (iz k') (iz k) M = some (bz (cutB P b k' k s = true), M) := by
  have h1 := hP.1.1.1
  have h2 := hP.1.1.2
  have n4 := mnn4 (hL b hb)
  unfold f_X6_isCut
  rw [isHeld_eq h hP.1 hl hs hb, ob_some]
  by_cases ch : hd P b s
  · rw [if_neg (by rw [bz_t ch]; decide)]
    have hb0 : 0 < b := (hP.2 s b hs hb ch.2).1
    have hkn : k' ≤ nn P (b - 1) := by
      rcases hk' with z | z
      · omega
      · exact z.2
    obtain ⟨x, e, hx⟩ := placeOf_eq (hL b hb) hP.1.1 hb (s := s) (by omega)
    rw [e, ob_some]
    rcases hx with ⟨hx, hn⟩ | ⟨i, hi, hr, hx⟩
    · rw [hx, if_pos (show iz (-9) = (-9 : Int32) from rfl), bz_f]
      · rfl
      · unfold cutB
        intro z
        rw [Bool.and_eq_true, Bool.and_eq_true] at z
        have := z.1.2
        unfold lb lf at this
        exact hn (of_decide_eq_true this)
    · have l1 : lb P b (nn P b) s = true := by
        unfold lb lf
        exact decide_eq_true ⟨i, hi, hr⟩
      have e9 : ¬ (iz (i : Int) = -9) := by rw [show (-9 : Int32) = iz (-9) from rfl, iz_eq (by omega) (by omega) (by omega) (by omega)]; omega
      rw [hx, if_neg e9, show iz (b : Int) - 1 = iz ((b - 1 : Nat) : Int) by
        rw [show (1 : Int32) = iz 1 from rfl, iz_sub]
        congr 1
        omega]
      rw [handOf_eq (hL (b - 1) (by omega)) hP.1.1 (by omega) (by omega) hkn, ob_some, handOf_eq (hL b hb) hP.1.1 hb (by omega) hk, ob_some]
      have v1 := hv_rng P (b - 1) k' s
      have v2 := hv_rng P b k s
      have ee : (iz (hv P (b - 1) k' s) = iz (hv P b k s)) = (hv P (b - 1) k' s = hv P b k s) := iz_eq (by omega) (by omega) (by omega) (by omega)
      have key : (cutB P b k' k s = true) = ¬ (hv P (b - 1) k' s = hv P b k s) := by
        unfold cutB kB lB hv
        rw [l1, decide_eq_true ch, if_neg (by omega), if_neg (by omega), if_pos rfl]
        cases lb P (b - 1) (nn P (b - 1)) s <;> cases lb P b k s <;> cases lb P (b - 1) k' s <;> simp
      by_cases c : hv P (b - 1) k' s = hv P b k s
      · rw [if_pos (by rw [ee]; exact c), bz_f (by rw [key]; exact fun z => z c)]
        rfl
      · rw [if_neg (by rw [ee]; exact c), bz_t (by rw [key]; exact c)]
        rfl
  · rw [if_pos (by rw [bz_f ch]; rfl), bz_f]
    · rfl
    · unfold cutB
      intro z
      rw [Bool.and_eq_true, Bool.and_eq_true] at z
      exact ch (of_decide_eq_true z.1.1)
theorem mfrom_eq {h : Nat} (h2 : h < 2) (k : Nat) : f_X6_from (iz h) (iz k) M = some (iz (if h = 0 then 0 else k : Nat), M) := by
  unfold f_X6_from
  rcases (show h = 0 ∨ h = 1 by omega) with rfl | rfl
  · rw [if_pos (show iz ((0 : Nat) : Int) = (0 : Int32) from rfl), if_pos (rfl : (0 : Nat) = 0)]; rfl
  · rw [if_neg (by decide), if_neg (show ¬ (1 : Nat) = 0 by omega)]
theorem mto_eq (h : ML M P b) (hP : PgD P) (hb : b < gB P) {hh : Nat} (h2 : hh < 2) (k : Nat) : f_X6_to (iz hh) (iz b) (iz k) M = some (iz (if hh = 0 then k else nn P b : Nat), M) := by
  unfold f_X6_to
  have hb2 := hP.2
  rcases (show hh = 0 ∨ hh = 1 by omega) with rfl | rfl
  · rw [if_pos (show iz ((0 : Nat) : Int) = (0 : Int32) from rfl), if_pos (rfl : (0 : Nat) = 0)]
  · rw [if_neg (by decide), if_neg (show ¬ (1 : Nat) = 0 by omega), if_pos (inb_n (n := b) (by omega) (by omega)), cl_n (n := b) (by omega), h.2.1.1]
    rfl
theorem position_eq (h : ML M P b) (hP : PgW P) (hb : b < gB P) {hh k : Nat} (h2 : hh < 2) (hk : k ≤ nn P b) : f_X6_position (iz hh) (iz b) (iz k) M = some (iz (ps P b hh k), M) := by
  unfold f_X6_position
  have n4 := mnn4 h
  rw [mto_eq h hP.1 hb h2, ob_some, mfrom_eq h2, ob_some, mfrom_eq h2, ob_some]
  unfold ps posP
  rcases (show hh = 0 ∨ hh = 1 by omega) with rfl | rfl
  · rw [if_pos (rfl : (0 : Nat) = 0), if_pos (rfl : (0 : Nat) = 0), if_pos (rfl : (0 : Nat) = 0)]
    by_cases c : 0 < k
    · rw [if_neg (by rw [lez (by omega) (by omega)]; omega), if_pos c, pitchOf_eq h.1 h.2.1 (rho_RO P b) hP hb (by unfold nn at hk; omega), ob_some]
    · rw [if_pos (by rw [lez (by omega) (by omega)]; omega), if_neg c]
      rfl
  · rw [if_neg (show ¬ (1 : Nat) = 0 by omega), if_neg (show ¬ (1 : Nat) = 0 by omega), if_neg (show ¬ (1 : Nat) = 0 by omega)]
    by_cases c : k < nn P b
    · rw [if_neg (by rw [lez (by omega) (by omega)]; omega), if_pos c, pitchOf_eq h.1 h.2.1 (rho_RO P b) hP hb c, ob_some]
    · rw [if_pos (by rw [lez (by omega) (by omega)]; omega), if_neg c]
      rfl
theorem mmove_eq (hL : MLs M P) (hP : PgW P) (hb : b < gB P) {hh k k' : Nat} (h2 : hh < 2) (hk : k ≤ nn P b) (hk' : okB P b k') : f_X6_move (iz hh) (iz b) (iz k') (iz k) M = some (iz (mv P b k' hh k), M) := by
  unfold f_X6_move
  have hb2 := hP.1.2
  have a1 := ps_rng hP hb hh k
  have a2 := psB_rng hP hb hh k'
  rw [position_eq (hL b hb) hP hb h2 hk, ob_some]
  have fin : f_X6_move_b28 (iz (ps P b hh k)) (iz (psB P b hh k')) M = some (iz (mv P b k' hh k), M) := by
    unfold f_X6_move_b28 f_X6_move_b51 mv
    rw [show (-9 : Int32) = iz (-9) from rfl, show (0 : Int32) = iz 0 from rfl, iz_sub, iz_neg]
    have e1 : (iz (ps P b hh k) = iz (-9)) = (ps P b hh k = -9) := iz_eq (by omega) (by omega) (by omega) (by omega)
    have e2 : (iz (psB P b hh k') = iz (-9)) = (psB P b hh k' = -9) := iz_eq (by omega) (by omega) (by omega) (by omega)
    have e3 : (iz 0 ≤ iz (ps P b hh k - psB P b hh k')) = (0 ≤ ps P b hh k - psB P b hh k') := iz_le (by omega) (by omega) (by omega) (by omega)
    by_cases x1 : ps P b hh k = -9
    · rw [if_pos (by rw [e1]; exact x1)]
      by_cases x2 : psB P b hh k' = -9
      · rw [if_pos x2]
      · rw [if_neg x2, if_pos x1]
    · rw [if_neg (by rw [e1]; exact x1)]
      by_cases x2 : psB P b hh k' = -9
      · rw [if_pos (by rw [e2]; exact x2), if_pos x2]
      · rw [if_neg (by rw [e2]; exact x2), if_neg x2, if_neg x1]
        by_cases x3 : 0 ≤ ps P b hh k - psB P b hh k'
        · rw [if_pos (by rw [e3]; exact x3)]
          by_cases x4 : ps P b hh k ≤ psB P b hh k'
          · rw [if_pos x4, show ps P b hh k - psB P b hh k' = psB P b hh k' - ps P b hh k by omega]
          · rw [if_neg x4]
        · rw [if_neg (by rw [e3]; exact x3), if_pos (by omega), show -(ps P b hh k - psB P b hh k') = psB P b hh k' - ps P b hh k by omega]
  by_cases e : b = 0
  · rw [if_pos (by rw [e]; rfl)]
    have : psB P b hh k' = -9 := by unfold psB; rw [if_pos e]
    rw [this] at fin
    exact fin
  · have eb : ¬ (iz (b : Int) = 0) := by rw [show (0 : Int32) = iz 0 from rfl, iz_eq (by omega) (by omega) (by omega) (by omega)]; omega
    have hkn : k' ≤ nn P (b - 1) := by
      rcases hk' with z | z
      · omega
      · exact z.2
    rw [if_neg eb, show iz (b : Int) - 1 = iz ((b - 1 : Nat) : Int) by
        rw [show (1 : Int32) = iz 1 from rfl, iz_sub]
        congr 1
        omega]
    rw [position_eq (hL (b - 1) (by omega)) hP (by omega) h2 hkn, ob_some]
    have : psB P b hh k' = ps P (b - 1) hh k' := by unfold psB; rw [if_neg e]
    rw [this] at fin
    exact fin
theorem wd_eq (P : Pg) (b hh k : Nat) : wd P b hh k = widP P b (rho P b) (if hh = 0 then 0 else k) (if hh = 0 then k else nn P b) := by
  unfold wd
  by_cases e : hh = 0
  · rw [if_pos e, if_pos e, if_pos e]
  · rw [if_neg e, if_neg e, if_neg e]
theorem mwidth_eq (h : ML M P b) (hP : PgW P) (hb : b < gB P) {hh k : Nat} (hk : k ≤ nn P b) : f_X6_width (iz b) (iz ((if hh = 0 then 0 else k : Nat) : Int)) (iz ((if hh = 0 then k else nn P b : Nat) : Int)) M = some (iz (wd P b hh k), M) := by
  rw [wd_eq]
  refine width_eq h.1 h.2.1 (rho_RO P b) hP hb ?_ ?_
  · split <;> omega
  · unfold nn at *
    split <;> omega
theorem misRolled_eq (h : PR M r 0 P) (hL : ML M P b) (hP : PgW P) (hl : lnA r = 72) (hb : b < gB P) {hh k : Nat} (h2 : hh < 2) (hk : k ≤ nn P b) : f_X6_isRolled r (iz hh) (iz b) (iz k) M = some (bz (ro P b hh k), M) := by
  unfold f_X6_isRolled
  rw [mfrom_eq h2, ob_some, mto_eq hL hP.1 hb h2, ob_some, mwidth_eq hL hP hb hk, ob_some, hl, if_pos (inb_n (n := hh) (by omega) (by omega)), cl_n (n := hh) (by omega), h.E (j := hh) (by omega)]
  have w : 0 ≤ wd P b hh k ∧ wd P b hh k ≤ 69 := by
    rw [wd_eq]
    exact mwid_rng hL.2.1 hP hb (by unfold nn at *; split <;> omega)
  have e := PgE_rng hP.2.1 (j := hh) (by omega)
  have ee : (iz (wd P b hh k) ≤ iz (gE P hh)) = (wd P b hh k ≤ gE P hh) := iz_le (by omega) (by omega) (by omega) (by omega)
  by_cases c : wd P b hh k ≤ gE P hh
  · rw [if_pos (by rw [ee]; exact c), bz_f (by unfold ro; omega)]; rfl
  · rw [if_neg (by rw [ee]; exact c), bz_t (by unfold ro; omega)]; rfl
end MO
