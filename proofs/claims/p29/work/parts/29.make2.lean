theorem iCh_eq (c : Nat) : iCh c = 98 + 12 * c := rfl
theorem CF.same {M M' : Mem} {c b : Nat} {P : Pg} (h : CF M c P b) (e : ∀ d, RCh c d → M' d = M d) : CF M' c P b := by
  have e0 := e (iCh c) ⟨by omega, by omega⟩
  have e1 := e (iCh c + 1) ⟨by omega, by omega⟩
  have e2 := e (iCh c + 2) ⟨by omega, by omega⟩
  have e3 := e (iCh c + 3) ⟨by omega, by omega⟩
  have e4 := e (iCh c + 4) ⟨by omega, by omega⟩
  have e5 := e (iCh c + 5) ⟨by omega, by omega⟩
  have e7 := e (iCh c + 7) ⟨by omega, by omega⟩
  have e8 := e (iCh c + 8) ⟨by omega, by omega⟩
  have e10 := e (iCh c + 10) ⟨by omega, by omega⟩
  have e11 := e (iCh c + 11) ⟨by omega, by omega⟩
  unfold CF CB CR CP CE
  rw [e0, e1, e2, e3, e4, e5, e7, e8, e10, e11]
  exact h
theorem SIL.same {M M' : Mem} (h : SIL M) (e : ∀ d, RCh 16 d → M' d = M d) : SIL M' := by
  have e0 := e (iCh 16) ⟨by omega, by omega⟩
  have e5 := e (iCh 16 + 5) ⟨by omega, by omega⟩
  have e7 := e (iCh 16 + 7) ⟨by omega, by omega⟩
  have e8 := e (iCh 16 + 8) ⟨by omega, by omega⟩
  unfold SIL
  rw [e0, e5, e7, e8]
  exact h
theorem RC.same {M M' : Mem} {P : Pg} (h : RC M P) (hP : PgD P) (e7 : M' 7 = M 7) (e : ∀ c d, c < 17 → RCh c d → M' d = M d) : RC M' P :=
  ⟨by rw [e7]; exact h.1, fun b hb => (h.2.1 b hb).same (fun d hd => e b d (by have := hP.2; omega) hd), h.2.2.same (fun d hd => e 16 d (by omega) hd)⟩
theorem dn2_tot {R : Type} {body : (Int32 → Mem → Option R) → Int32 → Mem → Option R} {P : R → Prop} (e : Nat) (J : Nat → Mem → Prop)
    (hs : ∀ (k : Int32 → Mem → Option R) (i : Nat) (M : Mem), i < e → J (i + 1) M → (∀ M', J i M' → Tot (k (iz ((i : Int) - 1)) M') P) → Tot (body k (iz i) M) P)
    (hx : ∀ (k : Int32 → Mem → Option R) (M : Mem), J 0 M → Tot (body k (iz (-1)) M) P) (n : Nat) (M : Mem) (h : J e M) (hn : e < n) : Tot (lq1 body n (iz ((e : Int) - 1)) M) P := by
  refine dn_tot (fun i M => i ≤ e ∧ J i M) (fun k i M ⟨a, b⟩ hk => hs k i M (by omega) b (fun M' c => hk M' ⟨by omega, c⟩)) (fun k M ⟨_, b⟩ => hx k M b) n e M ⟨Nat.le_refl e, h⟩ hn
section RED
variable {M : Mem} {P : Pg} {b c q : Nat}
def AG (M : Mem) (P : Pg) (n : Nat) : Prop := ∀ b, n ≤ b → b < gB P → ∀ k, k < 5 → pkk P b k → M (11 + b) k = iz (ag P b k)
theorem lookAhead_tot (h : RC M P) (hP : PgW P) : Tot (f_X2_lookAhead (iz (if gE P 5 = 1 then 1 else 0)) M) (fun x => RC x.2 P ∧ AG x.2 P 0 ∧ Off (fun d => 11 ≤ d ∧ d < 27) M x.2) := by
  unfold f_X2_lookAhead
  have h2 := hP.1.2
  have rc : ∀ {M'}, Off (fun d => 11 ≤ d ∧ d < 27) M M' → RC M' P := fun o => h.same hP.1 (o 7 (by omega)) (fun c d hc hd => o d (by have := hd.1; have := iCh_eq c; omega))
  rw [h.1, iz_lit, iz_sub]
  refine dn2_tot (gB P) (fun i M' => AG M' P i ∧ Off (fun d => 11 ≤ d ∧ d < 27) M M') ?_ ?_ 9999 M ⟨fun b h1 h2 => by omega, Off.rf⟩ (by omega)
  · intro k7 i M1 hi ⟨hA, ho⟩ hk7
    have hR := rc ho
    have hF := hR.2.1 i hi
    unfold f_X2_lookAhead_b7
    rw [chordAt_in hR.1 hP.1 hi, ob_some]
    simp (disch := omega) only [iz_lit, iz_neg, iz_add, iz_sub, iz_mul, iz_lt, iz_le, iz_eq, iz_inb, iz_cl, bz_0, ob_some]
    rw [if_neg (by omega), if_pos (by omega)]
    refine up_tot 5 (fun k M' => (∀ j, j < k → pkk P i j → M' (11 + i) j = iz (ag P i j)) ∧ AG M' P (i + 1) ∧ Off (fun d => 11 ≤ d ∧ d < 27) M M') ?_ ?_ 9999 0 M1 (by omega) ⟨fun j hj => absurd hj (Nat.not_lt_zero j), hA, ho⟩ (by omega)
    · intro k20 k M2 hk ⟨hj, hA, ho⟩ hk20
      unfold f_X2_lookAhead_b20
      have ho3 := ho.put (c := 11 + i) (i := k) (v := iz 0) ⟨by omega, by omega⟩
      have hR3 := rc ho3
      have hA3 : AG (mw M2 (11 + i) k (iz 0)) P (i + 1) := fun b h1 h2 j hj hp => by rw [mw_ne (by omega)]; exact hA b h1 h2 j hj hp
      have h74 : mw M2 (11 + i) k (iz 0) 7 4 = iz (gB P) := hR3.1
      have hj3 : ∀ j, j < k → pkk P i j → mw M2 (11 + i) k (iz 0) (11 + i) j = iz (ag P i j) := fun j h1 hp => by
        rw [mw_at, if_neg (by omega)]; exact hj j h1 hp
      have hz : mw M2 (11 + i) k (iz 0) (11 + i) k = iz 0 := by rw [mw_at, if_pos rfl]
      rw [show ((11 : Nat) + Int32.toNatClampNeg (iz (i : Int))) = 11 + i by rw [cl_n (by omega)], cl_n (n := k) (by omega)]
      rw [iz_lit 0]
      rw [show iz (OfNat.ofNat 0 : Int) = iz 0 from rfl, h74]
      generalize mw M2 (11 + i) k (iz 0) = M3 at ho3 hR3 hA3 hj3 hz ⊢
      have done : (pkk P i k → ag P i k = 0) → Tot (k20 (iz ((k : Int) + 1)) M3) (fun x => RC x.2 P ∧ AG x.2 P 0 ∧ Off (fun d => 11 ≤ d ∧ d < 27) M x.2) := fun hv =>
        hk20 _ ⟨fun j h1 hp => by
          by_cases e : j = k
          · rw [e] at hp ⊢; rw [hz, hv hp]
          · exact hj3 j (by omega) hp, hA3, ho3⟩
      have i1 := inb_n (n := i) (N := 16) (by omega) (by omega)
      have i2 := inb_n (n := k) (N := 5) (by omega) (by omega)
      have e5 : ¬ ((5 : Int32) ≤ iz (k : Int)) := by
        rw [show (5 : Int32) = iz 5 from rfl, iz_le (by omega) (by omega) (by omega) (by omega)]
        omega
      have a1 : iz (k : Int) + 1 = iz ((k : Int) + 1) := by rw [show (1 : Int32) = iz 1 from rfl, iz_add]
      have a2 : iz (i : Int) + 1 = iz ((i + 1 : Nat) : Int) := by rw [show (1 : Int32) = iz 1 from rfl, iz_add]; rfl
      have a3 : (iz (gB P : Int) - 1 ≤ iz (i : Int)) = ((gB P : Int) - 1 ≤ i) := by rw [show (1 : Int32) = iz 1 from rfl, iz_sub, iz_le (by omega) (by omega) (by omega) (by omega)]
      rw [if_neg e5, if_pos i1, if_pos i2]
      by_cases hm : gE P 5 = 1
      · rw [if_neg (by rw [if_pos hm]; decide)]
        by_cases hl : (gB P : Int) - 1 ≤ i
        · rw [if_pos (by rw [a3]; exact hl), a1]
          exact done (fun _ => ag_last (by omega) k)
        · rw [if_neg (by rw [a3]; exact hl)]
          have hF3 := hR3.2.1 i hi
          have hi1 : i + 1 < gB P := by omega
          rw [isPossible_eq hF3 hk, ob_some]
          by_cases hp : pkk P i k
          · rw [if_neg (by rw [bz_t hp]; decide)]
            have hok : okB P (i + 1) k := Or.inr ⟨by omega, hp.1⟩
            have hix : ixB (i + 1) = i := by unfold ixB; rw [if_neg (by omega)]; omega
            have hbs := bestSplit_eq hR3 hP hi1 hok (fun j h1 h2 => hA3 (i + 1) (by omega) hi1 j h1 h2)
            rw [hix] at hbs
            have hF4 := hR3.2.1 (i + 1) hi1
            have hse := sel_ok hF4 hP.2.1 k
            have hco := ccosts_eq hR3 hP hi1 hse.2.1 hok
            rw [hix] at hco
            rw [a2, hbs, ob_some, if_pos i1, chordAt_in hR3.1 hP.1 hi1, ob_some, if_pos (by omega), hco, ob_some, if_pos (inb_n (n := i + 1) (by omega) (by omega)), if_pos (inb_n hse.1 (by omega)), if_pos i2, cl_n (n := i + 1) (by omega), cl_n (n := sel P (i + 1) k) (by omega), hA3 (i + 1) (by omega) hi1 _ hse.1 hse.2.2, iz_add, a1]
            refine hk20 _ ⟨fun j h1 hp' => ?_, fun b h1 h2 j hj hp => by rw [mw_ne (by omega)]; exact hA3 b h1 h2 j hj hp, ho3.put ⟨by omega, by omega⟩⟩
            rw [mw_at]
            by_cases e : j = k
            · rw [if_pos e, e, ag_next hi1 hm]
            · rw [if_neg e]; exact hj3 j (by omega) hp'
          · rw [if_pos (bz_f hp), a1]
            exact done (fun z => absurd z hp)
      · rw [if_pos (by rw [if_neg hm]), a1]
        exact done (fun _ => by unfold ag; rw [if_neg hm])
    · intro k20 M2 ⟨hj, hA, ho⟩
      unfold f_X2_lookAhead_b20
      rw [if_pos (show (5 : Int32) ≤ iz ((5 : Nat) : Int) by decide), show iz (i : Int) + -1 = iz ((i : Int) + -1) by rw [show (-1 : Int32) = iz (-1) from rfl, iz_add], show (i : Int) + -1 = (i : Int) - 1 by omega]
      refine hk7 _ ⟨fun b h1 h2 j h3 hp => ?_, ho⟩
      by_cases e : b = i
      · rw [e] at hp ⊢; exact hj j h3 hp
      · exact hA b (by omega) h2 j h3 hp
  · intro k7 M1 ⟨hA, ho⟩
    unfold f_X2_lookAhead_b7
    rw [if_pos (show iz (-1) < 0 by decide)]
    exact Tot.mk ⟨rc ho, hA, ho⟩
/-- the whole reduction stands -/
def RD (M : Mem) (P : Pg) : Prop := RC M P ∧ ∀ b, b < gB P → M 9 b = iz (sq P b)
def RZ (M : Mem) : Prop := (∀ c, c < 17 → M (iCh c + 5) 0 = iz 0) ∧ SIL M
def RRd (d : Nat) : Prop := (7 ≤ d ∧ d < 27) ∨ (98 ≤ d ∧ d < 302)
theorem splitAt_eq (h : M 7 4 = iz (gB P)) (hP : PgD P) {n : Nat} (hs : ∀ b, b < n → M 9 b = iz (sq P b)) (hn : n ≤ gB P) (hb : b ≤ n) : f_X2_splitAt (iz ((b : Int) - 1)) M = some (iz (bef P b), M) := by
  unfold f_X2_splitAt bef
  have h2 := hP.2
  rw [h]
  simp (disch := omega) only [iz_lit, iz_neg, iz_add, iz_sub, iz_mul, iz_lt, iz_le, iz_eq, iz_inb, iz_cl, bz_0, ob_some]
  by_cases e : b = 0
  · rw [if_pos (by omega), if_pos e]; rfl
  · rw [if_neg (by omega), if_neg (by omega), if_pos (by omega), if_neg e, show ((b : Int) - 1).toNat = b - 1 by omega, hs (b - 1) (by omega)]
theorem splitAt_in (h : RD M P) (hP : PgD P) (hb : b < gB P) : f_X2_splitAt (iz b) M = some (iz (sq P b), M) := by
  have := splitAt_eq (b := b + 1) h.1.1 hP h.2 (Nat.le_refl _) (by omega)
  rw [show ((b + 1 : Nat) : Int) - 1 = b by omega] at this
  rw [this]
  unfold bef
  rw [if_neg (by omega), show b + 1 - 1 = b by omega]
theorem sq_ok (h : RC M P) (hP : PgE P) : ∀ b, b < gB P → sq P b < 5 ∧ sq P b ≤ nn P b ∧ pkk P b (sq P b)
  | 0, hb => sel_ok (h.2.1 0 hb) hP 0
  | b + 1, hb => sel_ok (h.2.1 (b + 1) hb) hP (sq P b)
theorem bef_ok (h : RC M P) (hP : PgE P) (hb : b < gB P) : okB P b (bef P b) := by
  unfold bef
  by_cases e : b = 0
  · rw [if_pos e]; exact Or.inl ⟨e, rfl⟩
  · rw [if_neg e]; exact Or.inr ⟨by omega, (sq_ok h hP (b - 1) (by omega)).2.1⟩
theorem sq_eq (b : Nat) : sq P b = sel P b (bef P b) := by
  unfold bef
  cases b with
  | zero => rfl
  | succ b => rw [if_neg (by omega)]; rfl
theorem make_tot (h : StRep M q P) (hP : PgW P) (hz : RZ M) (hq : iSt q + 3 ≤ 98) (hq2 : 44 ≤ iSt q) : Tot (f_X2_make q M) (fun x => RD x.2 P ∧ RZ x.2 ∧ Off RRd M x.2) := by
  unfold f_X2_make
  have h2 := hP.1.2
  rw [h.2.1]
  have st : ∀ {M'}, Off RRd M M' → StRep M' q P := fun o => h.off o (fun d hd hr => by
    have := hd.1; have := hd.2
    rcases hr with z | z <;> omega)
  rw [iz_lit]
  refine up_tot (gB P) (fun n M' => M' 7 4 = iz (gB P) ∧ (∀ b, b < n → CF M' b P b) ∧ RZ M' ∧ Off RRd M M') ?_ ?_ 9999 0 _ (by omega) ⟨by rw [mw_at, if_pos rfl], fun b hb => absurd hb (Nat.not_lt_zero b), ⟨fun c hc => by have := iCh_eq c; rw [mw_ne (by omega)]; exact hz.1 c hc, hz.2.same (fun d hd => mw_ne (by have := hd.1; have := iCh_eq 16; omega))⟩, Off.rf.put (Or.inl ⟨by omega, by omega⟩)⟩ (by omega)
  · intro k i M1 hi ⟨h7, hF, hZ, ho⟩ hk
    unfold f_X2_make_b10
    rw [h7, cl_n (n := i) (by omega)]
    simp (disch := omega) only [iz_lit, iz_neg, iz_add, iz_sub, iz_mul, iz_lt, iz_le, iz_eq, iz_inb, iz_cl, bz_0, ob_some]
    rw [if_neg (by omega), if_pos (by omega)]
    refine Tot.ob ((read_tot (st ho) hP hi (hZ.1 i (by omega)) (fun d hd hs => by
      have := hd.1; have := hs.2; have := iCh_eq i
      omega)).mono ?_)
    intro ⟨_, M2⟩ ⟨hF2, z2, o2⟩
    have keep : ∀ d, ¬ RCh i d → M2 d = M1 d := fun d hd => o2 d hd
    have ici := iCh_eq i
    have icg := iCh_eq 16
    refine hk _ ⟨?_, fun b hb => ?_, ⟨fun c hc => ?_, ?_⟩, ho.tr (o2.wk (fun d hd => Or.inr ⟨by have := hd.1; omega, by have := hd.2; omega⟩))⟩
    · show M2 7 4 = _
      rw [keep 7 (fun z => by have := z.1; omega)]; exact h7
    · by_cases e : b = i
      · rw [e]; exact hF2
      · exact (hF b (by omega)).same (fun d hd => keep d (fun z => by have := hd.1; have := hd.2; have := z.1; have := z.2; have := iCh_eq b; omega))
    · show M2 (iCh c + 5) 0 = _
      by_cases e : c = i
      · rw [e]; exact z2
      · rw [keep (iCh c + 5) (fun z => by have := z.1; have := z.2; have := iCh_eq c; omega)]; exact hZ.1 c hc
    · exact hZ.2.same (fun d hd => keep d (fun z => by have := hd.1; have := hd.2; have := z.1; have := z.2; omega))
  · intro k M1 ⟨h7, hF, hZ, ho⟩
    unfold f_X2_make_b10
    rw [h7]
    simp (disch := omega) only [iz_lit, iz_neg, iz_add, iz_sub, iz_mul, iz_lt, iz_le, iz_eq, iz_inb, iz_cl, bz_0, ob_some]
    rw [if_pos (by omega)]
    unfold f_X2_make_b35
    have hR : RC M1 P := ⟨h7, hF, hZ.2⟩
    have e5 := hP.2.1.2.2.2.2.2
    have hs5 : f_X3_settingAt q (iz 5) M1 = some (iz (gE P 5), M1) := settingAt_eq (j := 5) (st ho) (by omega)
    rw [show (5 : Int32) = iz 5 from rfl, hs5, ob_some]
    have main : Tot (f_X2_make_b50 (iz (if gE P 5 = 1 then 1 else 0)) M1) (fun x => RD x.2 P ∧ RZ x.2 ∧ Off RRd M x.2) := by
      unfold f_X2_make_b50
      refine Tot.ob ((lookAhead_tot hR hP).mono ?_)
      intro ⟨_, M2⟩ ⟨hR2, hA2, o2⟩
      have hR2 : RC M2 P := hR2
      have hA2 : AG M2 P 0 := hA2
      have hZ2 : RZ M2 := ⟨fun c hc => (congrFun (o2 _ (by have := iCh_eq c; omega)) 0).trans (hZ.1 c hc), hR2.2.2⟩
      have o3 := ho.tr (o2.wk (fun d hd => Or.inl ⟨by omega, by omega⟩))
      show Tot (lq1 (f_X2_make_b55) 9999 0 M2) _
      rw [iz_lit]
      refine up_tot (gB P) (fun n M' => RC M' P ∧ AG M' P 0 ∧ (∀ b, b < n → M' 9 b = iz (sq P b)) ∧ RZ M' ∧ Off RRd M M') ?_ ?_ 9999 0 M2 (by omega) ⟨hR2, hA2, fun b hb => absurd hb (Nat.not_lt_zero b), hZ2, o3⟩ (by omega)
      · intro k55 i M3 hi ⟨hR, hA, hs, hZ, ho⟩ hk55
        unfold f_X2_make_b55
        rw [hR.1]
        simp (disch := omega) only [iz_lit, iz_neg, iz_add, iz_sub, iz_mul, iz_lt, iz_le, iz_eq, iz_inb, iz_cl, bz_0, ob_some]
        rw [if_neg (by omega), chordAt_before hR.1 hP.1 hi, ob_some]
        have hx : ixB i < 17 := by unfold ixB; split <;> omega
        rw [if_pos hx, splitAt_eq hR.1 hP.1 hs (by omega) (Nat.le_refl i), ob_some, bestSplit_eq hR hP hi (bef_ok hR hP.2.1 hi) (fun k h1 h2 => hA i (by omega) hi k h1 h2), ob_some, if_pos (by omega), show (i : Int).toNat = i by omega]
        refine hk55 _ ⟨hR.same hP.1 (mw_ne (by omega)) (fun c d hc hd => mw_ne (by have := hd.1; have := iCh_eq c; omega)), fun b h1 h2 j hj hp => by rw [mw_ne (by omega)]; exact hA b h1 h2 j hj hp, fun b hb => ?_, ⟨fun c hc => by have := iCh_eq c; rw [mw_ne (by omega)]; exact hZ.1 c hc, hZ.2.same (fun d hd => mw_ne (by have := hd.1; have := iCh_eq 16; omega))⟩, ho.put (Or.inl ⟨by omega, by omega⟩)⟩
        rw [mw_at]
        by_cases e : b = i
        · rw [if_pos e, e, sq_eq]
        · rw [if_neg e]; exact hs b (by omega)
      · intro k55 M3 ⟨hR, hA, hs, hZ, ho⟩
        unfold f_X2_make_b55
        rw [hR.1]
        simp (disch := omega) only [iz_lit, iz_neg, iz_add, iz_sub, iz_mul, iz_lt, iz_le, iz_eq, iz_inb, iz_cl, bz_0, ob_some]
        rw [if_pos (by omega)]
        exact Tot.mk ⟨⟨hR, hs⟩, hZ, ho⟩
    simp (disch := omega) only [iz_lit, iz_neg, iz_add, iz_sub, iz_mul, iz_lt, iz_le, iz_eq, iz_inb, iz_cl, bz_0, ob_some]
    by_cases c0 : gE P 5 = 1
    · rw [if_pos c0]
      rw [if_pos c0] at main
      exact main
    · rw [if_neg c0]
      rw [if_neg c0] at main
      exact main
end RED
