section CH
variable {M : Mem} {q c b : Nat} {P : Pg} {ρ : Nat → Int}
theorem insert_tot {T : Nat → Prop} {n s : Nat} {r : Nat → Nat} (h : CB M c P b ρ) (hP : PgW P) (hb : b < gB P) (hn : M (iCh c) 9 = iz n) (hrow : ∀ i, i < n → M (iCh c + 4) i = iz (r i)) (hR : IsRow (sp P b) T n r) (hs : s < 4) (hT : ∀ t, T t → s < t) (hn4 : n < 4) :
    Tot (f_X0_insert c (iz s) M) (fun x => ∃ r', CB x.2 c P b ρ ∧ x.2 (iCh c) 9 = iz (n + 1 : Nat) ∧ (∀ i, i < n + 1 → x.2 (iCh c + 4) i = iz (r' i)) ∧ IsRow (sp P b) (fun t => T t ∨ t = s) (n + 1) r' ∧ (∀ d, d ≠ iCh c → d ≠ iCh c + 4 → x.2 d = M d) ∧ ∀ j, j ≠ 9 → x.2 (iCh c) j = M (iCh c) j) := by
  unfold f_X0_insert
  rw [hn]
  refine dnx_tot (fun a M' => a ≤ n ∧ CB M' c P b ρ ∧ M' (iCh c) 9 = iz n ∧ (∀ i, i < a → M' (iCh c + 4) i = iz (r i)) ∧ (∀ i, a ≤ i → i < n → M' (iCh c + 4) (i + 1) = iz (r i) ∧ sp P b s < sp P b (r i)) ∧ (∀ d, d ≠ iCh c + 4 → M' d = M d)) ?_ 9999 n M ⟨by omega, h, hn, hrow, fun i h1 h2 => by omega, fun d _ => rfl⟩ (by omega)
  intro k a M' ⟨ha, hB, h9, hl, hh, ho⟩ hk
  have fin : (∀ i, i < a → sp P b (r i) ≤ sp P b s) → Tot (f_X0_insert_b51 c (iz s) (iz a) M') (fun x => ∃ r', CB x.2 c P b ρ ∧ x.2 (iCh c) 9 = iz (n + 1 : Nat) ∧ (∀ i, i < n + 1 → x.2 (iCh c + 4) i = iz (r' i)) ∧ IsRow (sp P b) (fun t => T t ∨ t = s) (n + 1) r' ∧ (∀ d, d ≠ iCh c → d ≠ iCh c + 4 → x.2 d = M d) ∧ ∀ j, j ≠ 9 → x.2 (iCh c) j = M (iCh c) j) := by
    intro hle
    unfold f_X0_insert_b51
    simp (disch := omega) only [iz_lit, iz_neg, iz_add, iz_sub, iz_mul, iz_lt, iz_le, iz_eq, iz_inb, iz_cl, bz_0, ob_some]
    rw [if_pos (by omega), mw_ne (by omega), h9, show (a : Int).toNat = a by omega]
    simp (disch := omega) only [iz_lit, iz_neg, iz_add, iz_sub, iz_mul, iz_lt, iz_le, iz_eq, iz_inb, iz_cl, bz_0, ob_some]
    refine Tot.mk ⟨rIns r a s, (hB.put (by omega) (fun e => by omega)).put (by omega) (fun e => by omega), ?_, fun i hi => ?_, row_ins hR hs ha (fun i hi => ?_) (fun i h1 h2 => ?_) (fun t => Iff.rfl), fun d h1 h2 => (mw_ne h1).trans ((mw_ne h2).trans (ho d h2)), fun j hj => ?_⟩
    · show mw _ (iCh c) 9 _ (iCh c) 9 = _
      rw [mw_at, if_pos rfl]
      rfl
    · refine (congrFun (mw_ne (by omega)) i).trans ?_
      rw [mw_at]
      unfold rIns
      rcases Nat.lt_trichotomy i a with e | e | e
      · rw [if_neg (by omega), if_pos e]; exact hl i e
      · rw [if_pos e, if_neg (by omega), if_pos e]
      · rw [if_neg (by omega), if_neg (by omega), if_neg (by omega)]
        have := (hh (i - 1) (by omega) (by omega)).1
        rw [show i - 1 + 1 = i by omega] at this
        exact this
    · have h1 := hle i hi
      have h2 := hT _ (hR.1 i (by omega)).2
      omega
    · exact Or.inl (hh i h1 h2).2
    · show mw _ (iCh c) 9 _ (iCh c) j = _
      rw [mw_at, if_neg hj, mw_ne (by omega), ho (iCh c) (by omega)]
  unfold f_X0_insert_b5
  simp (disch := omega) only [iz_lit, iz_neg, iz_add, iz_sub, iz_mul, iz_lt, iz_le, iz_eq, iz_inb, iz_cl, bz_0, ob_some]
  by_cases h0 : a = 0
  · rw [if_pos (by omega)]
    exact fin (fun i hi => by omega)
  · rw [if_neg (by omega)]
    have hr := hR.1 (a - 1) (by omega)
    have e1 := hl (a - 1) (by omega)
    rw [if_pos (by omega), show ((a : Int) - 1).toNat = a - 1 by omega, e1]
    simp (disch := omega) only [iz_lit, iz_neg, iz_add, iz_sub, iz_mul, iz_lt, iz_le, iz_eq, iz_inb, iz_cl, bz_0, ob_some]
    rw [if_pos (by omega), if_pos (by omega), show ((r (a - 1) : Nat) : Int).toNat = r (a - 1) by omega, show (s : Int).toNat = s by omega, hB.1 _ hr.1, hB.1 s hs]
    have a1 := sp_rng hP hb s
    have a2 := sp_rng hP hb (r (a - 1))
    simp (disch := omega) only [iz_lit, iz_neg, iz_add, iz_sub, iz_mul, iz_lt, iz_le, iz_eq, iz_inb, iz_cl, bz_0, ob_some]
    by_cases h3 : sp P b (r (a - 1)) ≤ sp P b s
    · rw [if_pos h3]
      refine fin (fun i hi => ?_)
      by_cases e : i = a - 1
      · rw [e]; exact h3
      · have := hR.2.2 i (a - 1) (by omega) (by omega)
        omega
    · rw [if_neg h3, if_pos (by omega), if_pos (by omega), show (a : Int) + -1 = ((a - 1 : Nat) : Int) by omega, show (a : Int).toNat = a by omega]
      refine hk _ (by omega) ⟨by omega, hB.put (by omega) (fun e => by omega), by rw [mw_ne (by omega)]; exact h9, fun i hi => ?_, fun i h1 h2 => ?_, fun d hd => (mw_ne hd).trans (ho d hd)⟩
      · rw [mw_at, if_neg (by omega)]
        exact hl i (by omega)
      · rw [mw_at]
        by_cases e : i = a - 1
        · rw [e, if_pos (by omega)]
          exact ⟨rfl, by omega⟩
        · rw [if_neg (by omega)]
          exact hh i (by omega) h2
abbrev lfP (r : Nat → Nat) (k s : Nat) : Prop := ∃ i, i < k ∧ r i = s
noncomputable def lf (P : Pg) (b : Nat) (ρ : Nat → Int) (k : Nat) : Nat → Bool := fun s => decide (lfP (rR P b ρ) k s)
/-- the row stands, and the left hands -/
def CR (M : Mem) (c : Nat) (P : Pg) (b : Nat) (ρ : Nat → Int) : Prop :=
  M (iCh c) 9 = iz (rN P b ρ) ∧ (∀ i, i < rN P b ρ → M (iCh c + 4) i = iz (rR P b ρ i)) ∧ (∀ k, k ≤ rN P b ρ → M (iCh c + 5) k = mf (lf P b ρ k)) ∧ IsRow (sp P b) (kp ρ) (rN P b ρ) (rR P b ρ)
theorem CR.put (h : CR M c P b ρ) {d j : Nat} {v : Int32} (k1 : d ≠ iCh c + 4 ∧ d ≠ iCh c + 5) (k2 : d = iCh c → j ≠ 9) : CR (mw M d j v) c P b ρ := by
  obtain ⟨a, e, f, g⟩ := h
  refine ⟨?_, fun i hi => by rw [mw_ne (Ne.symm k1.1)]; exact e i hi, fun k hk => by rw [mw_ne (Ne.symm k1.2)]; exact f k hk, g⟩
  by_cases e : iCh c = d
  · have := k2 e.symm
    rw [← e, mw_at, if_neg (by omega)]
    exact a
  · rw [mw_ne e]; exact a
theorem cl_n {n : Nat} (h : n < 2147483648) : Int32.toNatClampNeg (iz (n : Int)) = n := by
  rw [iz_cl (by omega) (by omega)]
  omega
theorem inb_n {n N : Nat} (h : n < N) (h2 : n < 2147483648) : inb (iz (n : Int)) N := by
  rw [iz_inb (by omega) (by omega)]
  omega
theorem measure_eq (h : CB M c P b ρ) (hr : CR M c P b ρ) (hP : PgW P) (hb : b < gB P) {hh k i j : Nat} (h2 : hh < 2) (hk : k < 5) (hj : j ≤ rN P b ρ) (hij : i ≤ j) :
    f_X0_measure c (iz hh) (iz k) (iz i) (iz j) M = some ((), mw (mw M (iCh c + 7 + hh) k (iz (posP P b ρ i j))) (iCh c + 10 + hh) k (iz (widP P b ρ i j))) := by
  unfold f_X0_measure posP widP
  have n4 := row_n4 hr.2.2.2
  have hle : (iz (j : Int) ≤ iz (i : Int)) = ((j : Int) ≤ i) := iz_le (by omega) (by omega) (by omega) (by omega)
  have eh := cl_n (n := hh) (by omega)
  have ek := cl_n (n := k) (by omega)
  have ei := cl_n (n := i) (by omega)
  have ih := inb_n (n := hh) (N := 2) h2 (by omega)
  have ik := inb_n (n := k) (N := 5) hk (by omega)
  rw [eh, ek, ei]
  by_cases e : i < j
  · rw [if_neg (by rw [hle]; omega), if_pos e, if_pos e]
    have r1 := hr.2.2.2.1 i (by omega)
    have r2 := hr.2.2.2.1 (j - 1) (by omega)
    have a1 := sp_rng hP hb (rR P b ρ i)
    have a2 := sp_rng hP hb (rR P b ρ (j - 1))
    have ej : iz (j : Int) - 1 = iz ((j - 1 : Nat) : Int) := by
      rw [iz_lit, iz_sub]
      congr 1
      show (j : Int) - 1 = _
      omega
    rw [mw_ne (show iCh c + 4 ≠ iCh c + 7 + hh by omega), mw_ne (show iCh c + 2 ≠ iCh c + 7 + hh by omega), ej, cl_n (n := j - 1) (by omega), hr.2.1 i (by omega), hr.2.1 (j - 1) (by omega), cl_n (n := rR P b ρ i) (by omega), cl_n (n := rR P b ρ (j - 1)) (by omega), h.1 _ r1.1, h.1 _ r2.1, iz_sub]
    have i1 := inb_n (n := i) (N := 4) (by omega) (by omega)
    have i2 := inb_n (n := j - 1) (N := 4) (by omega) (by omega)
    have i3 := inb_n r1.1 (by omega)
    have i4 := inb_n r2.1 (by omega)
    rw [if_pos ih, if_pos i1, if_pos i3, if_pos ik, if_pos ih, if_pos i2, if_pos i4, if_pos i1, if_pos i3, if_pos ik]
    rfl
  · rw [if_pos (by rw [hle]; omega), if_neg e, if_neg e, if_pos ih, if_pos ik, if_pos ih, if_pos ik]
    rfl
theorem canPlay_core (h : CB M c P b ρ) (hP : PgW P) {hh k i j : Nat} (h2 : hh < 2) (hk : k < 5) (hij : i ≤ j) (hj : j ≤ 4) (hcnt : f_X0_countOf c (iz hh) (iz k) M = some (iz ((j : Int) - i), M)) (g : Nat → Bool) (hst : f_X0_stavesOf c (iz hh) (iz k) M = some (mf g, M)) (hg : (∀ s, s < 5 → (g s && decide (hd P b s)) = false) = ¬ hdIn P b ρ i j)
    (hw : M (iCh c + 10 + hh) k = iz (widP P b ρ i j)) (hwr : 0 ≤ widP P b ρ i j ∧ widP P b ρ i j ≤ 100) : f_X0_canPlay c (iz hh) (iz k) M = some (bz (canP P b ρ hh i j), M) := by
  unfold f_X0_canPlay
  have e2 := hP.2.1.2.2.1
  have e3 := hP.2.1.2.2.2.1
  have eh := PgE_rng hP.2.1 (j := hh) (by omega)
  have hsp : M (iCh c + 1) hh = iz (gE P hh) := by
    rcases (show hh = 0 ∨ hh = 1 by omega) with rfl | rfl
    · exact h.2.2.1.1.1
    · exact h.2.2.1.1.2
  rw [hcnt, ob_some, h.2.2.1.2.1]
  simp (disch := omega) only [iz_lit, iz_neg, iz_add, iz_sub, iz_mul, iz_lt, iz_le, iz_eq, iz_inb, iz_cl, bz_0, ob_some]
  by_cases c1 : (j : Int) - i ≤ gE P 2
  · rw [if_pos c1, hst, ob_some, h.2.2.2, mf_and]
    have hz : ((mf fun k => g k && decide (hd P b k)) = iz 0) = ¬ hdIn P b ρ i j := (mf_zero _).trans hg
    rw [show (hh : Int).toNat = hh by omega, hsp, h.2.2.1.2.2.1]
    simp (disch := omega) only [iz_lit, iz_neg, iz_add, iz_sub, iz_mul, iz_lt, iz_le, iz_eq, iz_inb, iz_cl, bz_0, ob_some]
    have tail : ∀ x : Int, -2147483648 ≤ x → x < 2147483648 → (x = gE P hh + (if hdIn P b ρ i j then 0 else gE P 3)) → f_X0_canPlay_b49 c (iz hh) (iz k) (iz x) M = some (bz (canP P b ρ hh i j), M) := fun x x0 x1 hx => by
      unfold f_X0_canPlay_b49
      simp (disch := omega) only [iz_lit, iz_neg, iz_add, iz_sub, iz_mul, iz_lt, iz_le, iz_eq, iz_inb, iz_cl, bz_0, ob_some]
      rw [if_pos (by omega), if_pos (by omega), show (hh : Int).toNat = hh by omega, show (k : Int).toNat = k by omega, hw]
      simp (disch := omega) only [iz_lit, iz_neg, iz_add, iz_sub, iz_mul, iz_lt, iz_le, iz_eq, iz_inb, iz_cl, bz_0, ob_some]
      by_cases c3 : x < widP P b ρ i j
      · rw [if_pos c3, bz_f]
        intro z
        have z2 := z.2
        rw [← hx] at z2
        omega
      · rw [if_neg c3, bz_t]
        refine ⟨c1, ?_⟩
        rw [← hx]
        omega
    by_cases c2 : hdIn P b ρ i j
    · rw [if_neg (by rw [hz]; exact fun z => z c2), if_pos (by omega)]
      exact tail _ (by omega) (by omega) (by rw [if_pos c2, Int.add_zero])
    · rw [if_pos (by rw [hz]; exact c2), if_pos (by omega)]
      exact tail _ (by omega) (by omega) (by rw [if_neg c2])
  · rw [if_neg c1, bz_f (fun z => c1 z.1)]
end CH
