abbrev pit (c : Int) : Prop := 0 ≤ c ∧ c ≤ 60
/-- whether a staff can be moved -/
abbrev canMv (P : Pg) (s : Nat) (d : Int) : Prop := ∀ b, b < gB P → pit (gC P s b) → pit (gC P s b + d)
def nPit (P : Pg) (s : Nat) (n : Nat) : Int := sg (fun b => if pit (gC P s b) then 1 else 0) n
theorem sg01 {f : Nat → Int} {n : Nat} (h : ∀ i, f i = 0 ∨ f i = 1) : 0 ≤ sg f n ∧ sg f n ≤ n := by
  have := sg_le (f := f) (a := 0) (b := 1) (n := n) (fun i _ => by have := h i; omega)
  omega
theorem nPit_rng (P : Pg) (s n : Nat) : 0 ≤ nPit P s n ∧ nPit P s n ≤ n := sg01 (fun i => by by_cases h : pit (gC P s i) <;> simp [h])
def nPits (P : Pg) (n : Nat) : Int := sg (fun s => nPit P s (gB P)) n
def nHold (P : Pg) (s n : Nat) : Int := sg (fun b => if gC P s b = 99 then 1 else 0) n
def nHolds (P : Pg) (n : Nat) : Int := sg (fun s => nHold P s (gB P)) n
theorem nHold_rng (P : Pg) (s n : Nat) : 0 ≤ nHold P s n ∧ nHold P s n ≤ n := sg01 (fun i => by by_cases h : gC P s i = 99 <;> simp [h])
section ST4
variable {M : Mem} {q : Nat} {P : Pg}
theorem allowsMoving_eq (h : StRep M q P) (hP : PgW P) {s : Nat} (hs : s < gS P) {d : Int} (d1 : -60 ≤ d) (d2 : d ≤ 60) : f_X3_allowsMoving q (iz s) (iz d) M = some (bz (canMv P s d), M) := by
  unfold f_X3_allowsMoving
  have h1 := hP.1.1
  have h2 := hP.1.2
  refine Tot.eq ?_
  rw [iz_lit]
  refine up_tot (gB P) (fun i M' => M' = M ∧ ∀ b, b < i → pit (gC P s b) → pit (gC P s b + d)) ?_ ?_ 9999 0 M (by omega) ⟨rfl, fun b hb => absurd hb (Nat.not_lt_zero b)⟩ (by omega)
  · intro k i M' hi ⟨e1, hJ⟩ hk
    subst e1
    unfold f_X3_allowsMoving_b2
    have hc := cOk_lt (hP.2.2 s i hs hi)
    rw [h.2.1, written_nat h hP.1 hs hi, ob_some, isPitch_eq (by omega) (by omega), ob_some, iz_add, isPitch_eq (by omega) (by omega), ob_some]
    simp (disch := omega) only [iz_lit, iz_neg, iz_add, iz_sub, iz_mul, iz_lt, iz_le, iz_eq, iz_inb, iz_cl, bz_0, ob_some]
    rw [if_neg (by omega)]
    by_cases c1 : pit (gC P s i)
    · rw [if_neg (by omega)]
      by_cases c2 : pit (gC P s i + d)
      · rw [if_neg (by omega)]
        exact hk M' ⟨rfl, fun b hb hp => by
          rcases Nat.lt_succ_iff_lt_or_eq.mp hb with hb | rfl
          · exact hJ b hb hp
          · exact c2⟩
      · rw [if_pos (by omega)]
        exact Tot.mk (by rw [bz_f (fun z => c2 (z i hi c1))])
    · rw [if_pos (by omega)]
      exact hk M' ⟨rfl, fun b hb hp => by
          rcases Nat.lt_succ_iff_lt_or_eq.mp hb with hb | rfl
          · exact hJ b hb hp
          · exact absurd hp c1⟩
  · intro k M' ⟨e1, hJ⟩
    subst e1
    unfold f_X3_allowsMoving_b2
    rw [h.2.1]
    simp (disch := omega) only [iz_lit, iz_neg, iz_add, iz_sub, iz_mul, iz_lt, iz_le, iz_eq, iz_inb, iz_cl, bz_0, ob_some]
    rw [if_pos (by omega)]
    exact Tot.mk (by rw [bz_t hJ])
theorem countStruckOf_eq (h : StRep M q P) (hP : PgW P) {s : Nat} (hs : s < gS P) : f_X3_countStruckOf q (iz s) M = some (iz (nPit P s (gB P)), M) := by
  unfold f_X3_countStruckOf
  have h1 := hP.1.1
  have h2 := hP.1.2
  refine Tot.eq ?_
  rw [iz_lit]
  refine up2_tot (gB P) (fun i a M' => M' = M ∧ a = iz (nPit P s i)) ?_ ?_ 9999 0 _ M (by omega) ⟨rfl, rfl⟩ (by omega)
  · intro k i a M' hi ⟨e1, e2⟩ hk
    subst e1 e2
    unfold f_X3_countStruckOf_b4
    have hc := cOk_lt (hP.2.2 s i hs hi)
    rw [h.2.1, written_nat h hP.1 hs hi, ob_some, isPitch_eq (by omega) (by omega), ob_some]
    simp (disch := omega) only [iz_lit, iz_neg, iz_add, iz_sub, iz_mul, iz_lt, iz_le, iz_eq, iz_inb, iz_cl, bz_0, ob_some]
    rw [if_neg (by omega)]
    by_cases c1 : pit (gC P s i)
    · rw [if_neg (by omega)]
      refine hk _ M' ⟨rfl, ?_⟩
      unfold nPit
      rw [sg, if_pos c1]
    · rw [if_pos (by omega)]
      refine hk _ M' ⟨rfl, ?_⟩
      unfold nPit
      rw [sg, if_neg c1, Int.add_zero]
  · intro k a M' ⟨e1, e2⟩
    subst e1 e2
    unfold f_X3_countStruckOf_b4
    rw [h.2.1]
    simp (disch := omega) only [iz_lit, iz_neg, iz_add, iz_sub, iz_mul, iz_lt, iz_le, iz_eq, iz_inb, iz_cl, bz_0, ob_some]
    rw [if_pos (by omega)]
    exact Tot.mk rfl
theorem countStruck_eq (h : StRep M q P) (hP : PgW P) : f_X3_countStruck q M = some (iz (nPits P (gS P)), M) := by
  unfold f_X3_countStruck
  have h1 := hP.1.1
  have h2 := hP.1.2
  refine Tot.eq ?_
  rw [iz_lit]
  refine up2_tot (gS P) (fun i a M' => M' = M ∧ a = iz (nPits P i)) ?_ ?_ 9999 0 _ M (by omega) ⟨rfl, rfl⟩ (by omega)
  · intro k i a M' hi ⟨e1, e2⟩ hk
    subst e1 e2
    unfold f_X3_countStruck_b4
    rw [h.1, countStruckOf_eq h hP hi, ob_some]
    simp (disch := omega) only [iz_lit, iz_neg, iz_add, iz_sub, iz_mul, iz_lt, iz_le, iz_eq, iz_inb, iz_cl, bz_0, ob_some]
    rw [if_neg (by omega)]
    exact hk _ M' ⟨rfl, rfl⟩
  · intro k a M' ⟨e1, e2⟩
    subst e1 e2
    unfold f_X3_countStruck_b4
    rw [h.1]
    simp (disch := omega) only [iz_lit, iz_neg, iz_add, iz_sub, iz_mul, iz_lt, iz_le, iz_eq, iz_inb, iz_cl, bz_0, ob_some]
    rw [if_pos (by omega)]
    exact Tot.mk rfl
theorem countHolds_eq (h : StRep M q P) (hP : PgW P) : f_X3_countHolds q M = some (iz (nHolds P (gS P)), M) := by
  unfold f_X3_countHolds
  have h1 := hP.1.1
  have h2 := hP.1.2
  refine Tot.eq ?_
  rw [iz_lit]
  refine up2_tot (gS P) (fun i a M' => M' = M ∧ a = iz (nHolds P i)) ?_ ?_ 9999 0 _ M (by omega) ⟨rfl, rfl⟩ (by omega)
  · intro k s a M' hs ⟨e1, e2⟩ hk
    subst e1 e2
    unfold f_X3_countHolds_b4
    rw [h.1]
    simp (disch := omega) only [iz_lit, iz_neg, iz_add, iz_sub, iz_mul, iz_lt, iz_le, iz_eq, iz_inb, iz_cl, bz_0, ob_some]
    rw [if_neg (by omega)]
    refine up2_tot (gB P) (fun i a M'' => M'' = M' ∧ a = iz (nHolds P s + nHold P s i)) ?_ ?_ 9999 0 _ M' (by omega) ⟨rfl, by unfold nHold; rw [sg, Int.add_zero]⟩ (by omega)
    · intro k2 i a M'' hi ⟨e1, e2⟩ hk2
      subst e1 e2
      unfold f_X3_countHolds_b14
      have hc := cOk_lt (hP.2.2 s i hs hi)
      rw [h.2.1, written_nat h hP.1 hs hi, ob_some]
      simp (disch := omega) only [iz_lit, iz_neg, iz_add, iz_sub, iz_mul, iz_lt, iz_le, iz_eq, iz_inb, iz_cl, bz_0, ob_some]
      rw [if_neg (by omega)]
      by_cases c1 : gC P s i = 99
      · rw [if_pos c1]
        refine hk2 _ M'' ⟨rfl, ?_⟩
        unfold nHold
        rw [sg, if_pos c1, Int.add_assoc]
      · rw [if_neg c1]
        refine hk2 _ M'' ⟨rfl, ?_⟩
        unfold nHold
        rw [sg, if_neg c1, Int.add_zero]
    · intro k2 a M'' ⟨e1, e2⟩
      subst e1 e2
      unfold f_X3_countHolds_b14
      rw [h.2.1]
      simp (disch := omega) only [iz_lit, iz_neg, iz_add, iz_sub, iz_mul, iz_lt, iz_le, iz_eq, iz_inb, iz_cl, bz_0, ob_some]
      rw [if_pos (by omega)]
      exact hk _ M'' ⟨rfl, rfl⟩
  · intro k a M' ⟨e1, e2⟩
    subst e1 e2
    unfold f_X3_countHolds_b4
    rw [h.1]
    simp (disch := omega) only [iz_lit, iz_neg, iz_add, iz_sub, iz_mul, iz_lt, iz_le, iz_eq, iz_inb, iz_cl, bz_0, ob_some]
    rw [if_pos (by omega)]
    exact Tot.mk rfl
/-- the music with other cells -/
abbrev pcel (P : Pg) (c : Nat → Nat → Int) : Pg := (gE P, gS P, gB P, c)
theorem st_putc (h : StRep M q P) (hP : PgD P) {s b : Nat} (hs : s < gS P) (hb : b < gB P) (v : Int) {c : Nat → Nat → Int} (hc : ∀ s' b', s' < gS P → b' < gB P → c s' b' = if s' = s ∧ b' = b then v else gC P s' b') : StRep (mw M (iSt q + 2) (s * 16 + b) (iz v)) q (pcel P c) :=
  (st_put h hP hs hb v).to rfl rfl (fun _ _ => rfl) (fun s' b' hs' hb' => hc s' b' hs' hb')
def psil (P : Pg) (s : Nat) : Pg := pcel P (fun s' b => if s' = s then -9 else gC P s' b)
theorem silenceStaff_tot (h : StRep M q P) (hP : PgD P) {s : Nat} (hs : s < gS P) : Tot (f_X3_silenceStaff q (iz s) M) (fun r => StRep r.2 q (psil P s) ∧ Off (RSt q) M r.2) := by
  unfold f_X3_silenceStaff
  have h1 := hP.1
  have h2 := hP.2
  rw [iz_lit]
  refine up_tot (gB P) (fun i M' => StRep M' q (pcel P (fun s' b => if s' = s ∧ b < i then -9 else gC P s' b)) ∧ Off (RSt q) M M') ?_ ?_ 9999 0 M (by omega) ⟨h.to rfl rfl (fun _ _ => rfl) (fun s' b _ _ => by show (if s' = s ∧ b < 0 then _ else _) = _; rw [if_neg (by omega)]), Off.rf⟩ (by omega)
  · intro k i M' hi ⟨hJ, ho⟩ hk
    unfold f_X3_silenceStaff_b2
    have hB : M' (iSt q) 3 = iz (gB P) := hJ.2.1
    rw [hB, put_eq hJ hP hs hi, ob_some]
    simp (disch := omega) only [iz_lit, iz_neg, iz_add, iz_sub, iz_mul, iz_lt, iz_le, iz_eq, iz_inb, iz_cl, bz_0, ob_some]
    rw [if_neg (by omega)]
    refine hk _ ⟨st_putc hJ hP hs hi (-9) (fun s' b' hs' hb' => ?_), ho.put ⟨by omega, by omega⟩⟩
    show (if s' = s ∧ b' < i + 1 then -9 else gC P s' b') = if s' = s ∧ b' = i then -9 else if s' = s ∧ b' < i then -9 else gC P s' b'
    by_cases a : s' = s ∧ b' < i + 1
    · rw [if_pos a]
      by_cases c : s' = s ∧ b' = i
      · rw [if_pos c]
      · rw [if_neg c, if_pos (by omega)]
    · rw [if_neg a, if_neg (by omega), if_neg (by omega)]
  · intro k M' ⟨hJ, ho⟩
    unfold f_X3_silenceStaff_b2
    have hB : M' (iSt q) 3 = iz (gB P) := hJ.2.1
    rw [hB]
    simp (disch := omega) only [iz_lit, iz_neg, iz_add, iz_sub, iz_mul, iz_lt, iz_le, iz_eq, iz_inb, iz_cl, bz_0, ob_some]
    rw [if_pos (by omega)]
    refine Tot.mk ⟨hJ.to rfl rfl (fun _ _ => rfl) (fun s' b hs' hb => ?_), ho⟩
    have hb : b < gB P := hb
    show (if s' = s then -9 else gC P s' b) = if s' = s ∧ b < gB P then -9 else gC P s' b
    by_cases e : s' = s
    · rw [if_pos e, if_pos ⟨e, hb⟩]
    · rw [if_neg e, if_neg (fun z => e z.1)]
def pmov (P : Pg) (s : Nat) (d : Int) : Pg := pcel P (fun s' b => if s' = s ∧ pit (gC P s' b) then gC P s' b + d else gC P s' b)
theorem pmov_W (hP : PgW P) {s : Nat} {d : Int} (hc : canMv P s d) : PgW (pmov P s d) := by
  refine ⟨hP.1, hP.2.1, fun s' b hs hb => ?_⟩
  have h1 := hP.2.2 s' b hs hb
  show cOk (if s' = s ∧ pit (gC P s' b) then gC P s' b + d else gC P s' b)
  split
  · rename_i e
    obtain ⟨rfl, e⟩ := e
    exact Or.inr (Or.inr (hc b hb e))
  · exact h1
theorem pmov_pit (hP : PgW P) {s : Nat} {d : Int} (hc : canMv P s d) {s' b : Nat} (hs : s' < gS P) (hb : b < gB P) : pit (gC (pmov P s d) s' b) ↔ pit (gC P s' b) := by
  show pit (if s' = s ∧ pit (gC P s' b) then gC P s' b + d else gC P s' b) ↔ _
  by_cases e : s' = s ∧ pit (gC P s' b)
  · obtain ⟨rfl, e⟩ := e
    rw [if_pos ⟨rfl, e⟩]
    have := hc b hb e
    omega
  · rw [if_neg e]
theorem moveStaff_tot (h : StRep M q P) (hP : PgW P) {s : Nat} (hs : s < gS P) {d : Int} (d1 : -60 ≤ d) (d2 : d ≤ 60) (hc : canMv P s d) : Tot (f_X3_moveStaff q (iz s) (iz d) M) (fun r => r.1 = iz (nPit P s (gB P)) ∧ StRep r.2 q (pmov P s d) ∧ Off (RSt q) M r.2) := by
  unfold f_X3_moveStaff
  have h1 := hP.1.1
  have h2 := hP.1.2
  rw [iz_lit]
  refine up_tot (gB P) (fun i M' => StRep M' q (pcel P (fun s' b => if (s' = s ∧ b < i) ∧ pit (gC P s' b) then gC P s' b + d else gC P s' b)) ∧ Off (RSt q) M M') ?_ ?_ 9999 0 M (by omega) ⟨h.to rfl rfl (fun _ _ => rfl) (fun s' b _ _ => by show (if (s' = s ∧ b < 0) ∧ _ then _ else _) = _; rw [if_neg (by omega)]), Off.rf⟩ (by omega)
  · intro k i M' hi ⟨hJ, ho⟩ hk
    unfold f_X3_moveStaff_b2
    have hcr := cOk_lt (hP.2.2 s i hs hi)
    have e0 : gC (pcel P (fun s' b => if (s' = s ∧ b < i) ∧ pit (gC P s' b) then gC P s' b + d else gC P s' b)) s i = gC P s i := by
      show (if (s = s ∧ i < i) ∧ _ then _ else _) = _
      rw [if_neg (by omega)]
    have hB : M' (iSt q) 3 = iz (gB P) := hJ.2.1
    rw [hB, written_nat hJ hP.1 hs hi, ob_some, e0, isPitch_eq (by omega) (by omega), ob_some, iz_add, put_eq hJ hP.1 hs hi, ob_some]
    simp (disch := omega) only [iz_lit, iz_neg, iz_add, iz_sub, iz_mul, iz_lt, iz_le, iz_eq, iz_inb, iz_cl, bz_0, ob_some]
    rw [if_neg (by omega)]
    have hcell : ∀ (w : Int) (s' b' : Nat), w = (if pit (gC P s i) then gC P s i + d else gC P s i) → (if (s' = s ∧ b' < i + 1) ∧ pit (gC P s' b') then gC P s' b' + d else gC P s' b') = if s' = s ∧ b' = i then w else if (s' = s ∧ b' < i) ∧ pit (gC P s' b') then gC P s' b' + d else gC P s' b' := by
      intro w s' b' hw
      by_cases c : s' = s ∧ b' = i
      · obtain ⟨rfl, rfl⟩ := c
        rw [if_pos (⟨rfl, rfl⟩ : s' = s' ∧ b' = b'), hw]
        by_cases p : pit (gC P s' b')
        · rw [if_pos ⟨⟨rfl, by omega⟩, p⟩, if_pos p]
        · rw [if_neg (fun z => p z.2), if_neg p]
      · rw [if_neg c]
        by_cases p : (s' = s ∧ b' < i) ∧ pit (gC P s' b')
        · rw [if_pos ⟨⟨p.1.1, by omega⟩, p.2⟩, if_pos p]
        · rw [if_neg (fun z => p ⟨⟨z.1.1, by omega⟩, z.2⟩), if_neg p]
    by_cases c1 : pit (gC P s i)
    · rw [if_neg (by omega)]
      exact hk _ ⟨st_putc hJ hP.1 hs hi _ (fun s' b' _ _ => hcell _ s' b' (by rw [if_pos c1])), ho.put ⟨by omega, by omega⟩⟩
    · rw [if_pos (by omega)]
      refine hk _ ⟨hJ.to rfl rfl (fun _ _ => rfl) (fun s' b' hs' hb' => ?_), ho⟩
      refine (hcell (gC P s i) s' b' (by rw [if_neg c1])).trans ?_
      show _ = if (s' = s ∧ b' < i) ∧ pit (gC P s' b') then gC P s' b' + d else gC P s' b'
      by_cases c : s' = s ∧ b' = i
      · obtain ⟨rfl, rfl⟩ := c
        rw [if_pos (⟨rfl, rfl⟩ : s' = s' ∧ b' = b'), if_neg (by omega)]
      · rw [if_neg c]
  · intro k M' ⟨hJ, ho⟩
    have hJ2 : StRep M' q (pmov P s d) := hJ.to rfl rfl (fun _ _ => rfl) (fun s' b hs' hb => by
      have hb : b < gB P := hb
      show (if s' = s ∧ pit (gC P s' b) then gC P s' b + d else gC P s' b) = if (s' = s ∧ b < gB P) ∧ pit (gC P s' b) then gC P s' b + d else gC P s' b
      by_cases e : s' = s ∧ pit (gC P s' b)
      · rw [if_pos e, if_pos ⟨⟨e.1, hb⟩, e.2⟩]
      · rw [if_neg e, if_neg (fun z => e ⟨z.1.1, z.2⟩)])
    unfold f_X3_moveStaff_b2
    have hB : M' (iSt q) 3 = iz (gB P) := hJ.2.1
    rw [hB]
    simp (disch := omega) only [iz_lit, iz_neg, iz_add, iz_sub, iz_mul, iz_lt, iz_le, iz_eq, iz_inb, iz_cl, bz_0, ob_some]
    rw [if_pos (by omega)]
    unfold f_X3_moveStaff_b42
    rw [countStruckOf_eq hJ2 (pmov_W hP hc) (s := s) hs, ob_some]
    refine Tot.mk ⟨?_, hJ2, ho⟩
    show iz (nPit (pmov P s d) s (gB P)) = _
    unfold nPit
    refine congrArg iz (sg_cong fun b hb => ?_)
    have := pmov_pit hP hc (s' := s) hs hb
    by_cases p : pit (gC P s b)
    · rw [if_pos (this.mpr p), if_pos p]
    · rw [if_neg (fun z => p (this.mp z)), if_neg p]
def pswp (P : Pg) (a c : Nat) : Pg := pcel P (fun s b => if s = a then gC P c b else if s = c then gC P a b else gC P s b)
def nDif (P : Pg) (a c n : Nat) : Int := sg (fun b => if gC P a b = gC P c b then 0 else 1) n
theorem nDif_rng (P : Pg) (a c n : Nat) : 0 ≤ nDif P a c n ∧ nDif P a c n ≤ n := sg01 (fun i => by by_cases h : gC P a i = gC P c i <;> simp [h])
theorem swapStaves_tot (h : StRep M q P) (hP : PgW P) {a c : Nat} (ha : a < gS P) (hc : c < gS P) : Tot (f_X3_swapStaves q (iz a) (iz c) M) (fun r => r.1 = iz (nDif P a c (gB P)) ∧ StRep r.2 q (pswp P a c) ∧ Off (RSt q) M r.2) := by
  unfold f_X3_swapStaves
  have h1 := hP.1.1
  have h2 := hP.1.2
  rw [iz_lit]
  refine up2_tot (gB P) (fun i x M' => x = iz (nDif P a c i) ∧ StRep M' q (pcel P (fun s b => if b < i then gC (pswp P a c) s b else gC P s b)) ∧ Off (RSt q) M M') ?_ ?_ 9999 0 _ M (by omega) ⟨rfl, h.to rfl rfl (fun _ _ => rfl) (fun s' b _ _ => by show (if b < 0 then gC (pswp P a c) s' b else gC P s' b) = gC P s' b; rw [if_neg (Nat.not_lt_zero b)]), Off.rf⟩ (by omega)
  · intro k i x M' hi ⟨hx, hJ, ho⟩ hk
    subst hx
    unfold f_X3_swapStaves_b5
    have ca := cOk_lt (hP.2.2 a i ha hi)
    have cc := cOk_lt (hP.2.2 c i hc hi)
    have e0 : ∀ s, gC (pcel P (fun s b => if b < i then gC (pswp P a c) s b else gC P s b)) s i = gC P s i := fun s => by
      show (if i < i then _ else _) = _
      rw [if_neg (by omega)]
    have hB : M' (iSt q) 3 = iz (gB P) := hJ.2.1
    rw [hB, written_nat hJ hP.1 ha hi, ob_some, written_nat hJ hP.1 hc hi, ob_some, e0, e0]
    simp (disch := omega) only [iz_lit, iz_neg, iz_add, iz_sub, iz_mul, iz_lt, iz_le, iz_eq, iz_inb, iz_cl, bz_0, ob_some]
    rw [if_neg (by omega)]
    have t : ∀ s b, gC (pswp P a c) s b = if s = a then gC P c b else if s = c then gC P a b else gC P s b := fun _ _ => rfl
    by_cases c1 : gC P a i = gC P c i
    · rw [if_pos c1]
      refine hk _ _ ⟨by unfold nDif; rw [sg, if_pos c1, Int.add_zero], hJ.to rfl rfl (fun _ _ => rfl) (fun s' b' hs' hb' => ?_), ho⟩
      show (if b' < i + 1 then gC (pswp P a c) s' b' else gC P s' b') = if b' < i then gC (pswp P a c) s' b' else gC P s' b'
      by_cases e : b' = i
      · subst e
        rw [if_pos (by omega), if_neg (by omega), t]
        by_cases e1 : s' = a
        · rw [if_pos e1, e1, c1]
        · rw [if_neg e1]
          by_cases e2 : s' = c
          · rw [if_pos e2, e2, c1]
          · rw [if_neg e2]
      · by_cases e2 : b' < i
        · rw [if_pos (by omega), if_pos e2]
        · rw [if_neg (by omega), if_neg e2]
    · rw [if_neg c1, put_eq hJ hP.1 ha hi, ob_some]
      have hJ3 := st_put hJ hP.1 (s := a) (b := i) ha hi (gC P c i)
      rw [put_eq hJ3 hP.1 (s := c) (b := i) hc hi, ob_some]
      have hJ4 := st_put hJ3 hP.1 (s := c) (b := i) hc hi (gC P a i)
      refine hk _ _ ⟨by unfold nDif; rw [sg, if_neg c1], hJ4.to rfl rfl (fun _ _ => rfl) (fun s' b' hs' hb' => ?_), (ho.put ⟨by omega, by omega⟩).put ⟨by omega, by omega⟩⟩
      show (if b' < i + 1 then gC (pswp P a c) s' b' else gC P s' b') = if s' = c ∧ b' = i then gC P a i else if s' = a ∧ b' = i then gC P c i else if b' < i then gC (pswp P a c) s' b' else gC P s' b'
      by_cases e : b' = i
      · subst e
        rw [if_pos (by omega), t]
        by_cases e1 : s' = a
        · subst e1
          rw [if_pos rfl]
          by_cases e2 : s' = c
          · subst e2; exact absurd rfl c1
          · rw [if_neg (fun z => e2 z.1), if_pos ⟨rfl, rfl⟩]
        · rw [if_neg e1]
          by_cases e2 : s' = c
          · rw [if_pos e2, if_pos ⟨e2, rfl⟩]
          · rw [if_neg e2, if_neg (fun z => e2 z.1), if_neg (fun z => e1 z.1), if_neg (by omega)]
      · rw [if_neg (by omega : ¬ (s' = c ∧ b' = i)), if_neg (by omega : ¬ (s' = a ∧ b' = i))]
        by_cases e2 : b' < i
        · rw [if_pos (by omega), if_pos e2]
        · rw [if_neg (by omega), if_neg e2]
  · intro k x M' ⟨hx, hJ, ho⟩
    subst hx
    unfold f_X3_swapStaves_b5
    have hB : M' (iSt q) 3 = iz (gB P) := hJ.2.1
    rw [hB]
    simp (disch := omega) only [iz_lit, iz_neg, iz_add, iz_sub, iz_mul, iz_lt, iz_le, iz_eq, iz_inb, iz_cl, bz_0, ob_some]
    rw [if_pos (by omega)]
    refine Tot.mk ⟨rfl, hJ.to rfl rfl (fun _ _ => rfl) (fun s' b hs' hb => ?_), ho⟩
    have hb : b < gB P := hb
    show gC (pswp P a c) s' b = if b < gB P then gC (pswp P a c) s' b else gC P s' b
    rw [if_pos hb]
end ST4
