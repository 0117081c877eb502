theorem dnx_tot {R : Type} {body : (Int32 → Mem → Option R) → Int32 → Mem → Option R} {P : R → Prop} (J : Nat → Mem → Prop)
    (hs : ∀ (k : Int32 → Mem → Option R) (a : Nat) (M : Mem), J a M → (∀ M', 0 < a → J (a - 1) M' → Tot (k (iz ((a - 1 : Nat) : Int)) M') P) → Tot (body k (iz a) M) P) (n : Nat) (a : Nat) (M : Mem) (h : J a M) (hn : a < n) : Tot (lq1 body n (iz a) M) P := by
  induction n generalizing a M with
  | zero => omega
  | succ n ih =>
    rw [lq1_s]
    exact hs _ a M h (fun M' h0 h' => ih (a - 1) M' h' (by omega))
theorem iz_div {a b : Int} (a0 : 0 ≤ a) (a1 : a < 2147483648) (b0 : 0 < b) (b1 : b < 2147483648) : iz a / iz b = iz (a / b) := by
  have hab : 0 ≤ a / b := Int.ediv_nonneg a0 (by omega)
  have hab2 : a / b ≤ a := Int.ediv_le_self b a0
  have e : (iz a / iz b).toInt = a / b := by
    rw [Int32.toInt_div, iz_toInt (by omega) a1, iz_toInt (by omega) b1, Int.tdiv_eq_ediv_of_nonneg a0]
    refine Int.bmod_eq_of_le ?_ ?_ <;> omega
  rw [← iz_self (iz a / iz b), e]
def CE (M : Mem) (c : Nat) (P : Pg) : Prop := (M (iCh c + 1) 0 = iz (gE P 0) ∧ M (iCh c + 1) 1 = iz (gE P 1)) ∧ M (iCh c) 1 = iz (gE P 2) ∧ M (iCh c) 2 = iz (gE P 3) ∧ M (iCh c) 3 = iz (gE P 4)
def CB (M : Mem) (c : Nat) (P : Pg) (b : Nat) (ρ : Nat → Int) : Prop :=
  (∀ s, s < 4 → M (iCh c + 2) s = iz (sp P b s)) ∧ (∀ s, s < 4 → M (iCh c + 3) s = iz (ρ s)) ∧ CE M c P ∧ M (iCh c) 6 = mf (fun s => decide (hd P b s))
def RCh (c d : Nat) : Prop := iCh c ≤ d ∧ d < iCh c + 12
theorem CE.put {M : Mem} {c : Nat} {P : Pg} (h : CE M c P) {d j : Nat} {v : Int32} (k1 : d ≠ iCh c + 1) (k2 : d = iCh c → j ≠ 1 ∧ j ≠ 2 ∧ j ≠ 3) : CE (mw M d j v) c P := by
  obtain ⟨⟨a, a'⟩, b, e, f⟩ := h
  unfold CE
  have t : ∀ i, (i = 1 ∨ i = 2 ∨ i = 3) → mw M d j v (iCh c) i = M (iCh c) i := fun i hi => by
    by_cases e : iCh c = d
    · have := k2 e.symm
      rw [← e, mw_at, if_neg (by omega)]
    · rw [mw_ne e]
  rw [mw_ne (Ne.symm k1), t 1 (by omega), t 2 (by omega), t 3 (by omega)]
  exact ⟨⟨a, a'⟩, b, e, f⟩
theorem CB.put {M : Mem} {c : Nat} {P : Pg} {b : Nat} {ρ : Nat → Int} (h : CB M c P b ρ) {d j : Nat} {v : Int32} (k1 : d ≠ iCh c + 1 ∧ d ≠ iCh c + 2 ∧ d ≠ iCh c + 3) (k2 : d = iCh c → j ≠ 1 ∧ j ≠ 2 ∧ j ≠ 3 ∧ j ≠ 6) : CB (mw M d j v) c P b ρ := by
  obtain ⟨a, e, f, g⟩ := h
  refine ⟨fun s hs => by rw [mw_ne (Ne.symm k1.2.1)]; exact a s hs, fun s hs => by rw [mw_ne (Ne.symm k1.2.2)]; exact e s hs, f.put k1.1 (fun e => ⟨(k2 e).1, (k2 e).2.1, (k2 e).2.2.1⟩), ?_⟩
  by_cases e : iCh c = d
  · have := k2 e.symm
    rw [← e, mw_at, if_neg (by omega)]
    exact g
  · rw [mw_ne e]; exact g
theorem sp_rng {P : Pg} (hP : PgW P) {b : Nat} (hb : b < gB P) (s : Nat) : -9 ≤ sp P b s ∧ sp P b s ≤ 60 := by
  unfold sp
  by_cases h : s < gS P
  · rw [if_pos h]
    have := snd_rng (n := gB P) (fun b hb => hP.2.2 s b h hb) b hb
    omega
  · rw [if_neg h]; omega
def RCa (c d : Nat) : Prop := iCh c ≤ d ∧ d < iCh c + 4
section CH
variable {M : Mem} {q c b : Nat} {P : Pg} {ρ : Nat → Int}
theorem sounding_sp (h : StRep M q P) (hP : PgW P) {s : Nat} (hs : s < 4) (hb : b < gB P) : f_X3_sounding q (iz s) (iz b) M = some (iz (sp P b s), M) := by
  have h2 := hP.1.2
  unfold sp
  by_cases c : s < gS P
  · rw [if_pos c]; exact sounding_eq h hP c hb
  · rw [if_neg c]
    exact sounding_out h hP (by omega) (by omega) (by omega) (by omega)
theorem wr_hd (hb : b < gB P) (s : Nat) : (wr P s b = 99) = hd P b s := by
  unfold wr
  refine propext ⟨fun h => ?_, fun h => ?_⟩
  · split at h
    · exact ⟨by omega, by simpa using h⟩
    · omega
  · rw [if_pos ⟨by omega, by omega, by omega, by omega⟩]
    simpa using h.2
theorem readSettings_tot (h : StRep M q P) (hP : PgE P) (hc : ∀ d, RCh c d → ¬ RSt q d) : Tot (f_X0_readSettings c q M) (fun r => CE r.2 c P ∧ Off (RCa c) M r.2) := by
  unfold f_X0_readSettings
  have e0 := PgE_rng hP (j := 0) (by omega)
  have e1 := PgE_rng hP (j := 1) (by omega)
  have e4 := hP.2.2.2.2.1
  have off : ∀ M', Off (RCa c) M M' → StRep M' q P := fun M' o => h.off o (fun d hd hc' => hc d ⟨hc'.1, by have := hc'.2; omega⟩ hd)
  rw [iz_lit]
  refine up_tot 2 (fun i M' => (∀ j, j < i → M' (iCh c + 1) j = iz (gE P j)) ∧ Off (RCa c) M M') ?_ ?_ 9999 0 M (by omega) ⟨fun j hj => absurd hj (Nat.not_lt_zero j), Off.rf⟩ (by omega)
  · intro k i M' hi ⟨hJ, ho⟩ hk
    unfold f_X0_readSettings_b2
    rw [settingAt_eq (off M' ho) (j := i) (by omega), ob_some]
    simp (disch := omega) only [iz_lit, iz_neg, iz_add, iz_sub, iz_mul, iz_lt, iz_le, iz_eq, iz_inb, iz_cl, bz_0, ob_some]
    rw [if_neg (by omega), if_pos (by omega)]
    refine hk _ ⟨fun j hj => ?_, ho.put ⟨by omega, by omega⟩⟩
    rw [mw_at, show (i : Int).toNat = i by omega]
    by_cases e : j = i
    · rw [if_pos e, e]
    · rw [if_neg e]; exact hJ j (by omega)
  · intro k M' ⟨hJ, ho⟩
    unfold f_X0_readSettings_b2
    simp (disch := omega) only [iz_lit, iz_neg, iz_add, iz_sub, iz_mul, iz_lt, iz_le, iz_eq, iz_inb, iz_cl, bz_0, ob_some]
    rw [if_pos (by omega)]
    unfold f_X0_readSettings_b24
    have st := fun (j : Nat) (hj : j < 6) => settingAt_eq (q := q) (P := P) (j := j) (off M' ho) hj
    have s2 := settingAt_eq (j := 2) (off M' ho) (by omega)
    rw [show ((2 : Nat) : Int) = 2 from rfl] at s2
    rw [show ((2 : Int32)) = iz 2 from rfl, s2, ob_some]
    have o2 := ho.put (c := iCh c) (i := 1) (v := iz (gE P 2)) ⟨by omega, by omega⟩
    have s3 := settingAt_eq (j := 3) (off _ o2) (by omega)
    rw [show ((3 : Nat) : Int) = 3 from rfl] at s3
    rw [show ((3 : Int32)) = iz 3 from rfl, s3, ob_some]
    have o3 := o2.put (c := iCh c) (i := 2) (v := iz (gE P 3)) ⟨by omega, by omega⟩
    have s4 := settingAt_eq (j := 4) (off _ o3) (by omega)
    rw [show ((4 : Nat) : Int) = 4 from rfl] at s4
    rw [show ((4 : Int32)) = iz 4 from rfl, s4, ob_some]
    simp (disch := omega) only [iz_lit, iz_neg, iz_add, iz_sub, iz_mul, iz_lt, iz_le, iz_eq, iz_inb, iz_cl, bz_0, ob_some]
    have fin : ∀ x : Int, x = gE P 4 → Tot (some ((), mw (mw (mw M' (iCh c) 1 (iz (gE P 2))) (iCh c) 2 (iz (gE P 3))) (iCh c) 3 (iz x))) (fun r => CE r.2 c P ∧ Off (RCa c) M r.2) := fun x hx => by
      refine Tot.mk ⟨⟨⟨?_, ?_⟩, ?_, ?_, ?_⟩, o3.put ⟨by omega, by omega⟩⟩
      · exact (congrFun ((mw_ne (by omega)).trans ((mw_ne (by omega)).trans (mw_ne (by omega)))) 0).trans (hJ 0 (by omega))
      · exact (congrFun ((mw_ne (by omega)).trans ((mw_ne (by omega)).trans (mw_ne (by omega)))) 1).trans (hJ 1 (by omega))
      · show mw (mw (mw M' (iCh c) 1 (iz (gE P 2))) (iCh c) 2 (iz (gE P 3))) (iCh c) 3 (iz x) (iCh c) 1 = _
        rw [mw_at, if_neg (by omega), mw_at, if_neg (by omega), mw_at, if_pos rfl]
      · show mw (mw (mw M' (iCh c) 1 (iz (gE P 2))) (iCh c) 2 (iz (gE P 3))) (iCh c) 3 (iz x) (iCh c) 2 = _
        rw [mw_at, if_neg (by omega), mw_at, if_pos rfl]
      · show mw (mw (mw M' (iCh c) 1 (iz (gE P 2))) (iCh c) 2 (iz (gE P 3))) (iCh c) 3 (iz x) (iCh c) 3 = _
        rw [mw_at, if_pos rfl, hx]
    by_cases e : gE P 4 = 1
    · rw [if_pos e]
      exact fin 1 e.symm
    · rw [if_neg e]
      exact fin 0 (by omega)
theorem readNotes_tot (h : StRep M q P) (hP : PgW P) (hb : b < gB P) (hE : CE M c P) (hc : ∀ d, RCh c d → ¬ RSt q d) : Tot (f_X0_readNotes c q (iz b) M) (fun r => CB r.2 c P b (r0 P b) ∧ Off (RCa c) M r.2) := by
  unfold f_X0_readNotes
  have h1 := hP.1.1
  have h2 := hP.1.2
  have off : ∀ M', Off (RCa c) M M' → StRep M' q P := fun M' o => h.off o (fun d hd hc' => hc d ⟨hc'.1, by have := hc'.2; omega⟩ hd)
  rw [iz_lit]
  refine up_tot 4 (fun i M' => (∀ s, s < i → M' (iCh c + 2) s = iz (sp P b s)) ∧ (∀ s, s < i → M' (iCh c + 3) s = iz (r0 P b s)) ∧ CE M' c P ∧ M' (iCh c) 6 = mf (fun s => decide (s < i ∧ hd P b s)) ∧ Off (RCa c) M M') ?_ ?_ 9999 0 _ (by omega) ⟨fun j hj => absurd hj (Nat.not_lt_zero j), fun j hj => absurd hj (Nat.not_lt_zero j), hE.put (by omega) (fun _ => by omega), ?_, Off.rf.put ⟨by omega, by omega⟩⟩ (by omega)
  · intro k i M' hi ⟨hp, hr, hE, hh, ho⟩ hk
    unfold f_X0_readNotes_b7
    have hs := sp_rng hP hb i
    have hw := cOk_lt (wr_rng hP i b)
    rw [sounding_sp (off M' ho) hP (s := i) hi hb, ob_some]
    simp (disch := omega) only [iz_lit, iz_neg, iz_add, iz_sub, iz_mul, iz_lt, iz_le, iz_eq, iz_inb, iz_cl, bz_0, ob_some]
    rw [if_neg (by omega), if_pos (by omega), mw_at, show (i : Int).toNat = i by omega, if_pos rfl, if_pos (by omega)]
    simp (disch := omega) only [iz_lit, iz_neg, iz_add, iz_sub, iz_mul, iz_lt, iz_le, iz_eq, iz_inb, iz_cl, bz_0, ob_some]
    have o1 := ho.put (c := iCh c + 2) (i := i) (v := iz (sp P b i)) ⟨by omega, by omega⟩
    have fin : ∀ x : Int, x = r0 P b i → Tot (f_X0_readNotes_b46 c q (iz b) (iz i) k (iz x) (iz i) (iCh c + 3) (mw M' (iCh c + 2) i (iz (sp P b i)))) (fun r => CB r.2 c P b (r0 P b) ∧ Off (RCa c) M r.2) := fun x hx => by
      subst hx
      unfold f_X0_readNotes_b46
      have o2 := o1.put (c := iCh c + 3) (i := i) (v := iz (r0 P b i)) ⟨by omega, by omega⟩
      simp (disch := omega) only [iz_lit, iz_neg, iz_add, iz_sub, iz_mul, iz_lt, iz_le, iz_eq, iz_inb, iz_cl, bz_0, ob_some]
      rw [if_pos (by omega), show (i : Int).toNat = i by omega, written_eq (off _ o2) hP.1 (by omega) (by omega) (by omega) (by omega), ob_some]
      simp (disch := omega) only [iz_lit, iz_neg, iz_add, iz_sub, iz_mul, iz_lt, iz_le, iz_eq, iz_inb, iz_cl, bz_0, ob_some]
      have e6 : mw (mw M' (iCh c + 2) i (iz (sp P b i))) (iCh c + 3) i (iz (r0 P b i)) (iCh c) 6 = mf (fun s => decide (s < i ∧ hd P b s)) := by rw [mw_ne (by omega), mw_ne (by omega), hh]
      have p2 : ∀ s, s < i + 1 → mw (mw M' (iCh c + 2) i (iz (sp P b i))) (iCh c + 3) i (iz (r0 P b i)) (iCh c + 2) s = iz (sp P b s) := fun s hs => by
        rw [mw_ne (by omega), mw_at]
        by_cases e : s = i
        · rw [if_pos e, e]
        · rw [if_neg e]; exact hp s (by omega)
      have p3 : ∀ s, s < i + 1 → mw (mw M' (iCh c + 2) i (iz (sp P b i))) (iCh c + 3) i (iz (r0 P b i)) (iCh c + 3) s = iz (r0 P b s) := fun s hs => by
        rw [mw_at]
        by_cases e : s = i
        · rw [if_pos e, e]
        · rw [if_neg e, mw_ne (by omega)]; exact hr s (by omega)
      have hE2 : CE (mw (mw M' (iCh c + 2) i (iz (sp P b i))) (iCh c + 3) i (iz (r0 P b i))) c P := (hE.put (by omega) (fun e => by omega)).put (by omega) (fun e => by omega)
      by_cases e : wr P i b = 99
      · rw [if_pos e, e6, ← iz_lit 1, ← iz_lit 31, mf_set _ (by omega)]
        refine hk _ ⟨fun s hs => by rw [mw_ne (by omega)]; exact p2 s hs, fun s hs => by rw [mw_ne (by omega)]; exact p3 s hs, hE2.put (by omega) (fun _ => by omega), ?_, o2.put ⟨by omega, by omega⟩⟩
        rw [mw_at, if_pos rfl]
        refine mf_cong fun s _ => ?_
        rw [wr_hd hb] at e
        rw [Bool.eq_iff_iff]
        simp only [Bool.or_eq_true, decide_eq_true_eq]
        refine ⟨fun z => ?_, fun z => ?_⟩
        · rcases z with z | z
          · exact ⟨by omega, z.2⟩
          · rw [z]; exact ⟨by omega, e⟩
        · by_cases d : s = i
          · exact Or.inr d
          · exact Or.inl ⟨by omega, z.2⟩
      · rw [if_neg e]
        refine hk _ ⟨p2, p3, hE2, ?_, o2⟩
        rw [e6]
        refine mf_cong fun s _ => ?_
        rw [wr_hd hb] at e
        rw [Bool.eq_iff_iff]
        simp only [decide_eq_true_eq]
        refine ⟨fun z => ⟨by omega, z.2⟩, fun z => ?_⟩
        by_cases d : s = i
        · rw [d] at z; exact absurd z.2 e
        · exact ⟨by omega, z.2⟩
    by_cases e : sp P b i = -9
    · rw [if_pos e]
      exact fin (-9) (by unfold r0; rw [if_pos e])
    · rw [if_neg e]
      exact fin 0 (by unfold r0; rw [if_neg e])
  · intro k M' ⟨hp, hr, hE, hh, ho⟩
    unfold f_X0_readNotes_b7
    simp (disch := omega) only [iz_lit, iz_neg, iz_add, iz_sub, iz_mul, iz_lt, iz_le, iz_eq, iz_inb, iz_cl, bz_0, ob_some]
    rw [if_pos (by omega)]
    refine Tot.mk ⟨⟨hp, hr, hE, hh.trans (mf_cong fun s hs => ?_)⟩, ho⟩
    rw [Bool.eq_iff_iff]
    simp only [decide_eq_true_eq]
    exact ⟨fun z => z.2, fun z => ⟨by omega, z⟩⟩
  · rw [mw_at, if_pos rfl, ← mf_none]
    refine mf_cong fun s _ => ?_
    simp
end CH
