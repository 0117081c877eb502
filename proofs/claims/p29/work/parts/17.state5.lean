section ST5
variable {M : Mem} {q : Nat} {P : Pg}
def padd (P : Pg) : Pg := (gE P, gS P + 1, gB P, fun s b => if s = gS P then -9 else gC P s b)
def pdrp (P : Pg) : Pg := (gE P, gS P - 1, gB P, gC P)
theorem addStaff_tot (h : StRep M q P) (hP : PgD P) (h4 : gS P < 4) : Tot (f_X3_addStaff q M) (fun r => StRep r.2 q (padd P) ∧ Off (RSt q) M r.2) := by
  unfold f_X3_addStaff
  have h1 := hP.1
  have h2 := hP.2
  rw [h.1, mw_at, if_pos rfl]
  simp (disch := omega) only [iz_lit, iz_neg, iz_add, iz_sub, iz_mul, iz_lt, iz_le, iz_eq, iz_inb, iz_cl, bz_0, ob_some]
  rw [if_neg (by omega), show ((gS P : Int) + 1 - 1) = gS P by omega]
  have hM : StRep (mw M (iSt q) 2 (iz ((gS P : Int) + 1))) q (gE P, gS P + 1, gB P, fun s b => if s = gS P then (M (iSt q + 2) (s * 16 + b)).toInt else gC P s b) := by
    obtain ⟨a, b, c, d⟩ := h
    refine ⟨by rw [mw_at, if_pos rfl]; rfl, by rw [mw_at, if_neg (by omega)]; exact b, fun j hj => by rw [mw_ne (by omega)]; exact c j hj, fun s b' hs hb' => ?_⟩
    rw [mw_ne (by omega)]
    have hs : s < gS P + 1 := hs
    show _ = iz (if s = gS P then _ else _)
    by_cases e : s = gS P
    · rw [if_pos e, iz_self]
    · rw [if_neg e]
      exact d s b' (by omega) hb'
  refine Tot.ob ((silenceStaff_tot hM ⟨⟨by show 1 ≤ gS P + 1; omega, by show gS P + 1 ≤ 4; omega⟩, h2⟩ (s := gS P) (by show gS P < gS P + 1; omega)).mono (fun r ⟨a, b⟩ => Tot.mk ⟨a.to rfl rfl (fun _ _ => rfl) (fun s b hs hb => ?_), (Off.rf.put ⟨by omega, by omega⟩).tr b⟩))
  show (if s = gS P then -9 else gC P s b) = if s = gS P then -9 else if s = gS P then _ else gC P s b
  by_cases e : s = gS P
  · rw [if_pos e, if_pos e]
  · rw [if_neg e, if_neg e, if_neg e]
theorem dropStaff_tot (h : StRep M q P) (hP : PgD P) (h4 : 1 < gS P) : Tot (f_X3_dropStaff q M) (fun r => StRep r.2 q (pdrp P) ∧ Off (RSt q) M r.2) := by
  unfold f_X3_dropStaff
  have h1 := hP.1
  rw [h.1]
  simp (disch := omega) only [iz_lit, iz_neg, iz_add, iz_sub, iz_mul, iz_lt, iz_le, iz_eq, iz_inb, iz_cl, bz_0, ob_some]
  rw [if_neg (by omega)]
  obtain ⟨a, b, c, d⟩ := h
  refine Tot.mk ⟨⟨?_, (by show mw M (iSt q) 2 (iz ((gS P : Int) - 1)) (iSt q) 3 = _; rw [mw_at, if_neg (by omega)]; exact b), fun j hj => Eq.trans (congrFun (mw_ne (by omega)) _) (c j hj), fun s b' hs hb' => ?_⟩, Off.rf.put ⟨by omega, by omega⟩⟩
  · refine Eq.trans (mw_at _ _ _ _ _) ?_
    rw [if_pos rfl]
    show iz ((gS P : Int) - 1) = iz ((gS P - 1 : Nat) : Int)
    congr 1
    omega
  · have hs : s < gS P - 1 := hs
    refine Eq.trans (congrFun (mw_ne (by omega)) _) (d s b' (by omega) hb')
def popn (P : Pg) (t : Nat) : Pg := (gE P, gS P, gB P + 1, fun s b => if b < t then gC P s b else if b = t then -9 else gC P s (b - 1))
def pcls (P : Pg) (t : Nat) : Pg := (gE P, gS P, gB P - 1, fun s b => if b < t then gC P s b else gC P s (b + 1))
/-- a counter from e down to t, which leaves -/
theorem dnto_tot {R : Type} {body : (Int32 → Mem → Option R) → Int32 → Mem → Option R} {P : R → Prop} (t : Nat) (J : Nat → Mem → Prop)
    (hs : ∀ (k : Int32 → Mem → Option R) (i : Nat) (M : Mem), t < i → J i M → (∀ M', J (i - 1) M' → Tot (k (iz ((i - 1 : Nat) : Int)) M') P) → Tot (body k (iz i) M) P)
    (hx : ∀ (k : Int32 → Mem → Option R) (M : Mem), J t M → Tot (body k (iz t) M) P) (n : Nat) (i : Nat) (M : Mem) (hi : t ≤ i) (h : J i M) (hn : i < n) : Tot (lq1 body n (iz i) M) P := by
  induction n generalizing i M with
  | zero => omega
  | succ n ih =>
    rw [lq1_s]
    by_cases c : i = t
    · subst c; exact hx _ M h
    · exact hs _ i M (by omega) h (fun M' h' => ih (i - 1) M' (by omega) h' (by omega))
theorem openBeat_tot (h : StRep M q P) (hP : PgD P) (h16 : gB P < 16) {t : Nat} (ht : t ≤ gB P) : Tot (f_X3_openBeat q (iz t) M) (fun r => StRep r.2 q (popn P t) ∧ Off (RSt q) M r.2) := by
  unfold f_X3_openBeat
  have h1 := hP.1
  have h2 := hP.2
  rw [h.2.1]
  simp (disch := omega) only [iz_lit, iz_neg, iz_add, iz_sub, iz_mul, iz_lt, iz_le, iz_eq, iz_inb, iz_cl, bz_0, ob_some]
  rw [if_pos (by omega)]
  have hD : PgD (gE P, gS P, gB P + 1, gC P) := ⟨h1, ⟨by show 1 ≤ gB P + 1; omega, by show gB P + 1 ≤ 16; omega⟩⟩
  refine up_tot (gS P) (fun s M' => StRep M' q (gE P, gS P, gB P + 1, fun s' b' => if s' < s then gC (popn P t) s' b' else if b' < gB P then gC P s' b' else (M (iSt q + 2) (s' * 16 + b')).toInt) ∧ Off (RSt q) M M') ?_ ?_ 9999 0 _ (by omega) ⟨⟨by rw [mw_at, if_neg (by omega)]; exact h.1, by rw [mw_at, if_pos rfl]; rfl, fun j hj => by rw [mw_ne (by omega)]; exact h.2.2.1 j hj, fun s b hs hb => ?_⟩, Off.rf.put ⟨by omega, by omega⟩⟩ (by omega)
  · intro k s M1 hs ⟨hJ, ho⟩ hk
    unfold f_X3_openBeat_b22
    have hS : M1 (iSt q) 2 = iz (gS P) := hJ.1
    have hB : M1 (iSt q) 3 = iz ((gB P : Int) + 1) := hJ.2.1
    rw [hS, hB]
    simp (disch := omega) only [iz_lit, iz_neg, iz_add, iz_sub, iz_mul, iz_lt, iz_le, iz_eq, iz_inb, iz_cl, bz_0, ob_some]
    rw [if_neg (by omega), show (gB P : Int) + 1 - 1 = gB P by omega]
    refine dnto_tot t (fun i M' => i ≤ gB P ∧ StRep M' q (gE P, gS P, gB P + 1, fun s' b' => if s' < s ∨ (s' = s ∧ i < b') then gC (popn P t) s' b' else if b' < gB P then gC P s' b' else (M (iSt q + 2) (s' * 16 + b')).toInt) ∧ Off (RSt q) M M') ?_ ?_ 9999 (gB P) M1 ht ⟨Nat.le_refl _, hJ.to rfl rfl (fun _ _ => rfl) (fun s' b' hs' hb' => ?_), ho⟩ (by omega)
    · intro k2 i M2 hi ⟨hiB, hJ2, ho2⟩ hk2
      unfold f_X3_openBeat_b37
      simp (disch := omega) only [iz_lit, iz_neg, iz_add, iz_sub, iz_mul, iz_lt, iz_le, iz_eq, iz_inb, iz_cl, bz_0, ob_some]
      rw [if_neg (by omega), show (i : Int) - 1 = ((i - 1 : Nat) : Int) by omega, written_nat hJ2 hD (s := s) (b := i - 1) hs (by show i - 1 < gB P + 1; omega), ob_some, put_eq hJ2 hD (s := s) (b := i) hs (by show i < gB P + 1; omega), ob_some, show (i : Int) + -1 = ((i - 1 : Nat) : Int) by omega]
      refine hk2 _ ⟨by omega, st_putc hJ2 hD (s := s) (b := i) hs (by show i < gB P + 1; omega) _ (fun s' b' hs' hb' => ?_), ho2.put ⟨by omega, by omega⟩⟩
      have hb' : b' < gB P + 1 := hb'
      show (if s' < s ∨ (s' = s ∧ i - 1 < b') then gC (popn P t) s' b' else if b' < gB P then gC P s' b' else _) = if s' = s ∧ b' = i then (if s < s ∨ (s = s ∧ i < i - 1) then gC (popn P t) s (i - 1) else if i - 1 < gB P then gC P s (i - 1) else _) else if s' < s ∨ (s' = s ∧ i < b') then gC (popn P t) s' b' else if b' < gB P then gC P s' b' else _
      by_cases e : s' = s ∧ b' = i
      · obtain ⟨rfl, rfl⟩ := e
        rw [if_pos (by omega), if_pos ⟨rfl, rfl⟩, if_neg (by omega), if_pos (by omega)]
        show (if b' < t then gC P s' b' else if b' = t then -9 else gC P s' (b' - 1)) = _
        rw [if_neg (by omega), if_neg (by omega)]
      · rw [if_neg e]
        by_cases e2 : s' < s ∨ (s' = s ∧ i < b')
        · rw [if_pos (by omega), if_pos e2]
        · rw [if_neg (by omega), if_neg e2]
    · intro k2 M2 ⟨_, hJ2, ho2⟩
      unfold f_X3_openBeat_b37
      simp (disch := omega) only [iz_lit, iz_neg, iz_add, iz_sub, iz_mul, iz_lt, iz_le, iz_eq, iz_inb, iz_cl, bz_0, ob_some]
      rw [if_pos (by omega)]
      unfold f_X3_openBeat_b62
      rw [put_eq hJ2 hD (s := s) (b := t) hs (by show t < gB P + 1; omega), ob_some]
      simp (disch := omega) only [iz_lit, iz_neg, iz_add, iz_sub, iz_mul, iz_lt, iz_le, iz_eq, iz_inb, iz_cl, bz_0, ob_some]
      refine hk _ ⟨st_putc hJ2 hD (s := s) (b := t) hs (by show t < gB P + 1; omega) (-9) (fun s' b' hs' hb' => ?_), ho2.put ⟨by omega, by omega⟩⟩
      have hb' : b' < gB P + 1 := hb'
      show (if s' < s + 1 then gC (popn P t) s' b' else if b' < gB P then gC P s' b' else _) = if s' = s ∧ b' = t then -9 else if s' < s ∨ (s' = s ∧ t < b') then gC (popn P t) s' b' else if b' < gB P then gC P s' b' else _
      have tt : ∀ s b, gC (popn P t) s b = if b < t then gC P s b else if b = t then -9 else gC P s (b - 1) := fun _ _ => rfl
      by_cases e : s' = s ∧ b' = t
      · obtain ⟨rfl, rfl⟩ := e
        rw [if_pos (by omega), if_pos ⟨rfl, rfl⟩, tt, if_neg (by omega), if_pos rfl]
      · rw [if_neg e]
        by_cases e2 : s' < s ∨ (s' = s ∧ t < b')
        · rw [if_pos (by omega), if_pos e2]
        · rw [if_neg e2]
          by_cases e3 : s' < s + 1
          · rw [if_pos e3, tt, if_pos (by omega), if_pos (by omega)]
          · rw [if_neg e3]
    · show (if s' < s ∨ (s' = s ∧ gB P < b') then _ else _) = (if s' < s then _ else _)
      have hb' : b' < gB P + 1 := hb'
      by_cases e : s' < s
      · rw [if_pos e, if_pos (Or.inl e)]
      · rw [if_neg e, if_neg (by omega)]
  · intro k M1 ⟨hJ, ho⟩
    unfold f_X3_openBeat_b22
    have hS : M1 (iSt q) 2 = iz (gS P) := hJ.1
    rw [hS]
    simp (disch := omega) only [iz_lit, iz_neg, iz_add, iz_sub, iz_mul, iz_lt, iz_le, iz_eq, iz_inb, iz_cl, bz_0, ob_some]
    rw [if_pos (by omega)]
    refine Tot.mk ⟨hJ.to rfl rfl (fun _ _ => rfl) (fun s b hs hb => ?_), ho⟩
    show gC (popn P t) s b = if s < gS P then gC (popn P t) s b else _
    rw [if_pos hs]
  · rw [mw_ne (by omega)]
    have hs : s < gS P := hs
    show _ = iz (if s < 0 then gC (popn P t) s b else if b < gB P then gC P s b else (M (iSt q + 2) (s * 16 + b)).toInt)
    rw [if_neg (by omega)]
    by_cases e : b < gB P
    · rw [if_pos e]; exact h.2.2.2 s b hs e
    · rw [if_neg e, iz_self]
theorem closeBeat_tot (h : StRep M q P) (hP : PgD P) (h16 : 1 < gB P) {t : Nat} (ht : t < gB P) : Tot (f_X3_closeBeat q (iz t) M) (fun r => StRep r.2 q (pcls P t) ∧ Off (RSt q) M r.2) := by
  unfold f_X3_closeBeat
  have h1 := hP.1
  have h2 := hP.2
  rw [h.2.1]
  simp (disch := omega) only [iz_lit, iz_neg, iz_add, iz_sub, iz_mul, iz_lt, iz_le, iz_eq, iz_inb, iz_cl, bz_0, ob_some]
  rw [if_pos (by omega)]
  have tt : ∀ s b, gC (pcls P t) s b = if b < t then gC P s b else gC P s (b + 1) := fun _ _ => rfl
  refine up_tot (gS P) (fun s M' => StRep M' q (pcel P (fun s' b' => if s' < s ∧ b' < gB P - 1 then gC (pcls P t) s' b' else gC P s' b')) ∧ Off (RSt q) M M') ?_ ?_ 9999 0 _ (by omega) ⟨h.to rfl rfl (fun _ _ => rfl) (fun s b hs hb => by show (if s < 0 ∧ b < gB P - 1 then gC (pcls P t) s b else gC P s b) = gC P s b; rw [if_neg (by omega)]), Off.rf⟩ (by omega)
  · intro k s M1 hs ⟨hJ, ho⟩ hk
    unfold f_X3_closeBeat_b11
    have hS : M1 (iSt q) 2 = iz (gS P) := hJ.1
    rw [hS]
    simp (disch := omega) only [iz_lit, iz_neg, iz_add, iz_sub, iz_mul, iz_lt, iz_le, iz_eq, iz_inb, iz_cl, bz_0, ob_some]
    rw [if_neg (by omega)]
    have e1 : (gB P : Int) - 1 = ((gB P - 1 : Nat) : Int) := by omega
    refine up_tot (gB P - 1) (fun i M' => t ≤ i ∧ StRep M' q (pcel P (fun s' b' => if (s' < s ∧ b' < gB P - 1) ∨ (s' = s ∧ b' < i) then gC (pcls P t) s' b' else gC P s' b')) ∧ Off (RSt q) M M') ?_ ?_ 9999 t M1 (by omega) ⟨Nat.le_refl _, hJ.to rfl rfl (fun _ _ => rfl) (fun s' b' hs' hb' => ?_), ho⟩ (by omega)
    · intro k2 i M2 hi ⟨hti, hJ2, ho2⟩ hk2
      unfold f_X3_closeBeat_b21
      have hB : M2 (iSt q) 3 = iz (gB P) := hJ2.2.1
      rw [hB]
      simp (disch := omega) only [iz_lit, iz_neg, iz_add, iz_sub, iz_mul, iz_lt, iz_le, iz_eq, iz_inb, iz_cl, bz_0, ob_some]
      rw [if_neg (by omega), show (i : Int) + 1 = ((i + 1 : Nat) : Int) by omega, written_nat hJ2 hP (s := s) (b := i + 1) hs (by show i + 1 < gB P; omega), ob_some, put_eq hJ2 hP (s := s) (b := i) hs (by show i < gB P; omega), ob_some]
      refine hk2 _ ⟨by omega, st_putc hJ2 hP (s := s) (b := i) hs (by show i < gB P; omega) _ (fun s' b' hs' hb' => ?_), ho2.put ⟨by omega, by omega⟩⟩
      show (if (s' < s ∧ b' < gB P - 1) ∨ (s' = s ∧ b' < i + 1) then gC (pcls P t) s' b' else gC P s' b') = if s' = s ∧ b' = i then (if (s < s ∧ i + 1 < gB P - 1) ∨ (s = s ∧ i + 1 < i) then gC (pcls P t) s (i + 1) else gC P s (i + 1)) else if (s' < s ∧ b' < gB P - 1) ∨ (s' = s ∧ b' < i) then gC (pcls P t) s' b' else gC P s' b'
      by_cases e : s' = s ∧ b' = i
      · obtain ⟨rfl, rfl⟩ := e
        rw [if_pos (by omega), if_pos ⟨rfl, rfl⟩, if_neg (by omega), tt, if_neg (by omega)]
      · rw [if_neg e]
        by_cases e2 : (s' < s ∧ b' < gB P - 1) ∨ (s' = s ∧ b' < i)
        · rw [if_pos (by omega), if_pos e2]
        · rw [if_neg (by omega), if_neg e2]
    · intro k2 M2 ⟨_, hJ2, ho2⟩
      unfold f_X3_closeBeat_b21
      have hB : M2 (iSt q) 3 = iz (gB P) := hJ2.2.1
      rw [hB]
      simp (disch := omega) only [iz_lit, iz_neg, iz_add, iz_sub, iz_mul, iz_lt, iz_le, iz_eq, iz_inb, iz_cl, bz_0, ob_some]
      rw [if_pos (by omega)]
      refine hk _ ⟨hJ2.to rfl rfl (fun _ _ => rfl) (fun s' b' hs' hb' => ?_), ho2⟩
      show (if s' < s + 1 ∧ b' < gB P - 1 then gC (pcls P t) s' b' else gC P s' b') = if (s' < s ∧ b' < gB P - 1) ∨ (s' = s ∧ b' < gB P - 1) then gC (pcls P t) s' b' else gC P s' b'
      by_cases e : s' < s + 1 ∧ b' < gB P - 1
      · rw [if_pos e, if_pos (by omega)]
      · rw [if_neg e, if_neg (by omega)]
    · show (if (s' < s ∧ b' < gB P - 1) ∨ (s' = s ∧ b' < t) then gC (pcls P t) s' b' else gC P s' b') = if s' < s ∧ b' < gB P - 1 then gC (pcls P t) s' b' else gC P s' b'
      by_cases e : s' < s ∧ b' < gB P - 1
      · rw [if_pos e, if_pos (Or.inl e)]
      · rw [if_neg e]
        by_cases e2 : s' = s ∧ b' < t
        · rw [if_pos (Or.inr e2), tt, if_pos e2.2]
        · rw [if_neg (by omega)]
  · intro k M1 ⟨hJ, ho⟩
    unfold f_X3_closeBeat_b11
    have hS : M1 (iSt q) 2 = iz (gS P) := hJ.1
    have hB : M1 (iSt q) 3 = iz (gB P) := hJ.2.1
    rw [hS]
    simp (disch := omega) only [iz_lit, iz_neg, iz_add, iz_sub, iz_mul, iz_lt, iz_le, iz_eq, iz_inb, iz_cl, bz_0, ob_some]
    rw [if_pos (by omega)]
    unfold f_X3_closeBeat_b57
    rw [hB]
    simp (disch := omega) only [iz_lit, iz_neg, iz_add, iz_sub, iz_mul, iz_lt, iz_le, iz_eq, iz_inb, iz_cl, bz_0, ob_some]
    obtain ⟨a, b, c, d⟩ := hJ
    refine Tot.mk ⟨⟨(by show mw M1 (iSt q) 3 (iz ((gB P : Int) - 1)) (iSt q) 2 = _; rw [mw_at, if_neg (by omega)]; exact a), ?_, fun j hj => Eq.trans (congrFun (mw_ne (by omega)) _) (c j hj), fun s b' hs hb' => ?_⟩, ho.put ⟨by omega, by omega⟩⟩
    · refine Eq.trans (mw_at _ _ _ _ _) ?_
      rw [if_pos rfl]
      show iz ((gB P : Int) - 1) = iz ((gB P - 1 : Nat) : Int)
      congr 1
      omega
    · have hb' : b' < gB P - 1 := hb'
      have hs : s < gS P := hs
      refine Eq.trans (congrFun (mw_ne (by omega)) _) ((d s b' hs (by show b' < gB P; omega)).trans ?_)
      show iz (if s < gS P ∧ b' < gB P - 1 then gC (pcls P t) s b' else gC P s b') = _
      rw [if_pos ⟨hs, hb'⟩]
end ST5
