theorem pswp_Ok {P : Pg} (hP : PgOk P) {a c : Nat} (ha : a < gS P) (hc : c < gS P) : PgOk (pswp P a c) := by
  have row : ∀ s, s < gS P → ∃ t, t < gS P ∧ ∀ b, gC (pswp P a c) s b = gC P t b := fun s hs => by
    have t : ∀ b, gC (pswp P a c) s b = if s = a then gC P c b else if s = c then gC P a b else gC P s b := fun _ => rfl
    by_cases e1 : s = a
    · exact ⟨c, hc, fun b => by rw [t, if_pos e1]⟩
    · by_cases e2 : s = c
      · exact ⟨a, ha, fun b => by rw [t, if_neg e1, if_pos e2]⟩
      · exact ⟨s, hs, fun b => by rw [t, if_neg e1, if_neg e2]⟩
  refine ⟨⟨hP.1.1, hP.1.2.1, fun s b hs hb => ?_⟩, fun s b hs hb h99 => ?_⟩
  · obtain ⟨t, ht, e⟩ := row s hs
    rw [e]; exact hP.1.2.2 t b ht hb
  · obtain ⟨t, ht, e⟩ := row s hs
    rw [e] at h99
    rw [e]
    exact hP.2 t b ht hb h99
theorem mswap_tot {M : Mem} {r : Nat} {P : Pg} (h : PR M r 0 P) (hP : PgW P) (hl : lnA r = 72) {a c : Nat} (ha : a < gS P) (hc : c < gS P) : Tot (f_X6_swap r (iz a) (iz c) M) (fun x => x.1 = iz (nDif P a c (gB P)) ∧ PR x.2 r 0 (pswp P a c) ∧ Off (fun d => d = r) M x.2) := by
  have h2 := hP.1.2
  have i7 : inb 7 (lnA r) := by rw [hl]; decide
  unfold f_X6_swap
  rw [show (0 : Int32) = iz ((0 : Nat) : Int) from rfl]
  refine up2_tot (gB P) (fun i v M' => v = iz (nDif P a c i) ∧ PR M' r 0 (pcel P (fun s b => if b < i then gC (pswp P a c) s b else gC P s b)) ∧ Off (fun d => d = r) M M') ?_ ?_ 9999 0 _ M (by omega) ⟨rfl, h.to rfl rfl (fun _ _ => rfl) (fun s' b _ _ => by show (if b < 0 then gC (pswp P a c) s' b else gC P s' b) = gC P s' b; rw [if_neg (Nat.not_lt_zero b)]), Off.rf⟩ (by omega)
  · intro K i v M' hi ⟨e1, hJ, ho⟩ hK
    subst e1
    unfold f_X6_swap_b5
    have hxa := pg_lt hP.1 ha hi
    have hxc := pg_lt hP.1 hc hi
    have ca := cOk_lt (hP.2.2 a i ha hi)
    have cc := cOk_lt (hP.2.2 c i hc hi)
    have hB : M' r 7 = iz (gB P) := hJ.B
    have cell : ∀ s, s < gS P → M' r (8 + (16 * s + i)) = iz (gC P s i) := fun s hs => by
      have := hJ.C (s := s) (b := i) hs hi
      have e0 : gC (pcel P (fun s b => if b < i then gC (pswp P a c) s b else gC P s b)) s i = gC P s i := by
        show (if i < i then _ else _) = _
        rw [if_neg (by omega)]
      rw [e0] at this
      exact this
    have ixa := inb_n (n := 8 + (16 * a + i)) (N := 72) (by omega) (by omega)
    have ixc := inb_n (n := 8 + (16 * c + i)) (N := 72) (by omega) (by omega)
    rw [if_pos i7, c7, hB, if_neg (by rw [lez (by omega) (by omega)]; omega), at_eq, ob_some, l8, hl, if_pos ixa, at_eq, ob_some, l8, if_pos ixc, cl_n (n := 8 + (16 * a + i)) (by omega), cl_n (n := 8 + (16 * c + i)) (by omega), cell a ha, cell c hc]
    have ee : (iz (gC P a i) = iz (gC P c i)) = (gC P a i = gC P c i) := iz_eq (by omega) (by omega) (by omega) (by omega)
    have t : ∀ s b, gC (pswp P a c) s b = if s = a then gC P c b else if s = c then gC P a b else gC P s b := fun _ _ => rfl
    have go : ∀ x : Int, x = (if gC P a i = gC P c i then 0 else 1) → Tot (f_X6_swap_b53 r (iz a) (iz c) (iz i) (iz (gC P a i)) (iz (gC P c i)) K (iz x) (iz (nDif P a c i)) M') (fun y => y.1 = iz (nDif P a c (gB P)) ∧ PR y.2 r 0 (pswp P a c) ∧ Off (fun d => d = r) M y.2) := fun x hx => by
      unfold f_X6_swap_b53
      rw [at_eq, ob_some, l8, hl, if_pos ixa, at_eq, ob_some, l8, if_pos ixc, cl_n (n := 8 + (16 * a + i)) (by omega), cl_n (n := 8 + (16 * c + i)) (by omega), iz_add, a1z]
      have p1 : PR (mw M' r (8 + (16 * a + i)) (iz (gC P c i))) r 0 (pcel P (fun s b => if s = a ∧ b = i then gC P c i else if b < i then gC (pswp P a c) s b else gC P s b)) := pr_putc hJ hP.1 ha hi _ (fun _ _ _ _ => rfl)
      refine hK _ _ ⟨by unfold nDif; rw [sg, hx], pr_putc p1 hP.1 hc hi (gC P a i) (fun s' b' hs' hb' => ?_), (ho.put rfl).put rfl⟩
      show (if b' < i + 1 then gC (pswp P a c) s' b' else gC P s' b') = if s' = c ∧ b' = i then gC P a i else if s' = a ∧ b' = i then gC P c i else if b' < i then gC (pswp P a c) s' b' else gC P s' b'
      by_cases e : b' = i
      · subst e
        rw [if_pos (by omega), t]
        by_cases e1 : s' = a
        · by_cases e2 : s' = c
          · rw [if_pos e1, if_pos (show s' = c ∧ b' = b' from ⟨e2, rfl⟩), e1.symm.trans e2]
          · rw [if_pos e1, if_neg (show ¬ (s' = c ∧ b' = b') from fun z => e2 z.1), if_pos (show s' = a ∧ b' = b' from ⟨e1, rfl⟩)]
        · by_cases e2 : s' = c
          · rw [if_neg e1, if_pos e2, if_pos (show s' = c ∧ b' = b' from ⟨e2, rfl⟩)]
          · rw [if_neg e1, if_neg e2, if_neg (show ¬ (s' = c ∧ b' = b') from fun z => e2 z.1), if_neg (show ¬ (s' = a ∧ b' = b') from fun z => e1 z.1), if_neg (show ¬ (b' < b') by omega)]
      · rw [if_neg (by omega : ¬ (s' = c ∧ b' = i)), if_neg (by omega : ¬ (s' = a ∧ b' = i))]
        by_cases e2 : b' < i
        · rw [if_pos (by omega), if_pos e2]
        · rw [if_neg (by omega), if_neg e2]
    by_cases c1 : gC P a i = gC P c i
    · rw [if_pos (by rw [ee]; exact c1), show (0 : Int32) = iz 0 from rfl]
      exact go 0 (by rw [if_pos c1])
    · rw [if_neg (by rw [ee]; exact c1), show (1 : Int32) = iz 1 from rfl]
      exact go 1 (by rw [if_neg c1])
  · intro K v M' ⟨e1, hJ, ho⟩
    subst e1
    unfold f_X6_swap_b5
    have hB : M' r 7 = iz (gB P) := hJ.B
    rw [if_pos i7, c7, hB, if_pos (Int32.le_refl _)]
    refine Tot.mk ⟨rfl, hJ.to rfl rfl (fun _ _ => rfl) (fun s' b hs' hb => ?_), ho⟩
    have hb : b < gB P := hb
    show gC (pswp P a c) s' b = if b < gB P then gC (pswp P a c) s' b else gC P s' b
    rw [if_pos hb]
theorem g_exchange (D : Ds) (hD : DOk D) (x y : Int32) : Agree h_L_exchange (f_X5_exchange x y) (f_X6_exchange x y) D := by
  obtain ⟨s, rfl, s1, s2⟩ := izself x
  obtain ⟨d, rfl, d1, d2⟩ := izself y
  have hP := hD.2.2.1
  have no : ∀ (M : Mem), f_X6_exchange_b27 (iz s) (iz d) M = some (0, mw M 27 0 (iz ((1 : Nat) : Int))) := fun M => by
    unfold f_X6_exchange_b27 f_X6_exchange_b28
    exact ref_no (n := 1) (by omega) (by omega) M _ _
  have ms : ∀ M, MRel M D → f_X6_isStaff 30 (iz s) M = some (bz (0 ≤ s ∧ s < gS (dP D)), M) := fun M hM => isStaff_eq hM.2.1 hP.1.1 rfl s1 s2
  have md : ∀ M, MRel M D → f_X6_isStaff 30 (iz d) M = some (bz (0 ≤ d ∧ d < gS (dP D)), M) := fun M hM => isStaff_eq hM.2.1 hP.1.1 rfl d1 d2
  by_cases cs : 0 ≤ s ∧ s < gS (dP D)
  · by_cases cd : 0 ≤ d ∧ d < gS (dP D)
    · obtain ⟨s', rfl⟩ : ∃ s' : Nat, s = (s' : Int) := ⟨s.toNat, by omega⟩
      obtain ⟨d', rfl⟩ : ∃ d' : Nat, d = (d' : Int) := ⟨d.toNat, by omega⟩
      have hs : s' < gS (dP D) := by omega
      have hd : d' < gS (dP D) := by omega
      refine Agree.yes (D' := dPut (dRem D) (pswp (dP D) s' d')) (dPut_Ok (dRem_Ok hD) (pswp_Ok hP hs hd)) (iz (nDif (dP D) s' d' (gB (dP D)))) (fun M hM => ?_) (fun M hM => ?_)
      · unfold f_X5_exchange
        rw [reqStaff hM hD s1 s2, if_pos cs, oe_ok, reqStaff hM hD d1 d2, if_pos cd, oe_ok]
        refine c_act hM hD _ (fun _ M2 h2 => ?_)
        refine Tot.ob ((swapStaves_tot h2 hP.1 hs hd).mono ?_)
        intro ⟨a, M3⟩ ⟨e, h3, o⟩
        exact Tot.mk ⟨congrArg _ e, h3, o⟩
      · unfold f_X6_exchange
        rw [ms M hM, ob_some, if_neg (by rw [bz_t cs]; decide), md M hM, ob_some, if_neg (by rw [bz_t cd]; decide)]
        unfold f_X6_exchange_b28
        rw [ref_yes]
        refine m_go hM hD _ (fun _ M2 h2 => ?_)
        refine Tot.ob ((mswap_tot h2 hP.1 rfl hs hd).mono ?_)
        intro ⟨a, M3⟩ ⟨e, h3, o⟩
        exact Tot.mk ⟨e, h3, o⟩
    · refine Agree.no hD 2 1 rfl (by omega) (fun M hM => ?_) (fun M hM => ?_)
      · unfold f_X5_exchange
        rw [reqStaff hM hD s1 s2, if_pos cs, oe_ok, reqStaff hM hD d1 d2, if_neg cd, oe_er]
      · unfold f_X6_exchange
        rw [ms M hM, ob_some, if_neg (by rw [bz_t cs]; decide), md M hM, ob_some, if_pos (show bz (0 ≤ d ∧ d < gS (dP D)) = 0 from bz_f cd)]
        exact ⟨_, no M⟩
  · refine Agree.no hD 2 1 rfl (by omega) (fun M hM => ?_) (fun M hM => ?_)
    · unfold f_X5_exchange
      rw [reqStaff hM hD s1 s2, if_neg cs, oe_er]
    · unfold f_X6_exchange
      rw [ms M hM, ob_some, if_pos (show bz (0 ≤ s ∧ s < gS (dP D)) = 0 from bz_f cs)]
      exact ⟨_, no M⟩
