theorem up2_tot {A R : Type} {body : (A → Int32 → Mem → Option R) → A → Int32 → Mem → Option R} {P : R → Prop} (e : Nat) (J : Nat → A → Mem → Prop)
    (hs : ∀ (k : A → Int32 → Mem → Option R) (i : Nat) (a : A) (M : Mem), i < e → J i a M → (∀ a' M', J (i + 1) a' M' → Tot (k a' (iz (i + 1 : Nat)) M') P) → Tot (body k a (iz i) M) P)
    (hx : ∀ (k : A → Int32 → Mem → Option R) (a : A) (M : Mem), J e a M → Tot (body k a (iz e) M) P) (n : Nat) (i : Nat) (a : A) (M : Mem) (hi : i ≤ e) (h : J i a M) (hn : e - i < n) : Tot (lq2 body n a (iz i) M) P := by
  induction n generalizing i a M with
  | zero => omega
  | succ n ih =>
    rw [lq2_s]
    by_cases c : i = e
    · subst c; exact hx _ a M h
    · exact hs _ i a M (by omega) h (fun a' M' h' => ih (i + 1) a' M' (by omega) h' (by omega))
theorem up3_tot {A B R : Type} {body : (A → B → Int32 → Mem → Option R) → A → B → Int32 → Mem → Option R} {P : R → Prop} (e : Nat) (J : Nat → A → B → Mem → Prop)
    (hs : ∀ (k : A → B → Int32 → Mem → Option R) (i : Nat) (a : A) (b : B) (M : Mem), i < e → J i a b M → (∀ a' b' M', J (i + 1) a' b' M' → Tot (k a' b' (iz (i + 1 : Nat)) M') P) → Tot (body k a b (iz i) M) P)
    (hx : ∀ (k : A → B → Int32 → Mem → Option R) (a : A) (b : B) (M : Mem), J e a b M → Tot (body k a b (iz e) M) P) (n : Nat) (i : Nat) (a : A) (b : B) (M : Mem) (hi : i ≤ e) (h : J i a b M) (hn : e - i < n) : Tot (lq3 body n a b (iz i) M) P := by
  induction n generalizing i a b M with
  | zero => omega
  | succ n ih =>
    rw [lq3_s]
    by_cases c : i = e
    · subst c; exact hx _ a b M h
    · exact hs _ i a b M (by omega) h (fun a' b' M' h' => ih (i + 1) a' b' M' (by omega) h' (by omega))
/-- sums -/
def sg (f : Nat → Int) : Nat → Int
  | 0 => 0
  | n + 1 => sg f n + f n
theorem sg_le {f : Nat → Int} {a b : Int} : ∀ {n : Nat}, (∀ i, i < n → a ≤ f i ∧ f i ≤ b) → n * a ≤ sg f n ∧ sg f n ≤ n * b
  | 0, _ => by unfold sg; omega
  | n + 1, h => by
    have h1 := sg_le (n := n) (fun i hi => h i (by omega))
    have h2 := h n (by omega)
    unfold sg
    rw [show ((n + 1 : Nat) : Int) * a = n * a + a by rw [Int.natCast_succ, Int.add_mul, Int.one_mul], show ((n + 1 : Nat) : Int) * b = n * b + b by rw [Int.natCast_succ, Int.add_mul, Int.one_mul]]
    omega
theorem sg_cong {f g : Nat → Int} : ∀ {n : Nat}, (∀ i, i < n → f i = g i) → sg f n = sg g n
  | 0, _ => rfl
  | n + 1, h => by unfold sg; rw [sg_cong (n := n) (fun i hi => h i (by omega)), h n (by omega)]
abbrev setOk (a v : Int) : Prop := (a = 0 ∧ 1 ≤ v ∧ v ≤ 24) ∨ (a = 1 ∧ 1 ≤ v ∧ v ≤ 24) ∨ (a = 2 ∧ 1 ≤ v ∧ v ≤ 5) ∨ (a = 3 ∧ 0 ≤ v ∧ v ≤ 9) ∨ (a = 4 ∧ 0 ≤ v ∧ v ≤ 1) ∨ (a = 5 ∧ 0 ≤ v ∧ v ≤ 1)
def seLo (j : Nat) : Int := if j < 3 then 1 else 0
def seHi (j : Nat) : Int := if j < 2 then 24 else if j = 2 then 5 else if j = 3 then 9 else 1
theorem sa_lo : ∀ j, j < 6 → sa_least.getD j (iz 0) = iz (seLo j) := by decide
theorem sa_hi : ∀ j, j < 6 → sa_most.getD j (iz 0) = iz (seHi j) := by decide
theorem setOk_iff {j : Nat} (hj : j < 6) (v : Int) : setOk j v ↔ seLo j ≤ v ∧ v ≤ seHi j := by
  unfold seLo seHi
  match j, hj with
  | 0, _ => simp; omega
  | 1, _ => simp; omega
  | 2, _ => simp; omega
  | 3, _ => simp; omega
  | 4, _ => simp; omega
  | 5, _ => simp; omega
  | n + 6, h => omega
def pset (P : Pg) (j : Nat) (v : Int) : Pg := (fun j' => if j' = j then v else gE P j', gS P, gB P, gC P)
theorem pset_E {P : Pg} (h : PgE P) {j : Nat} {v : Int} (hv : setOk j v) : PgE (pset P j v) := by
  obtain ⟨a, b, c, d, e, f⟩ := h
  have t : ∀ i : Nat, gE (pset P j v) i = if i = j then v else gE P i := fun _ => rfl
  unfold PgE
  rw [t 0, t 1, t 2, t 3, t 4, t 5]
  unfold setOk at hv
  refine ⟨?_, ?_, ?_, ?_, ?_, ?_⟩ <;> split <;> omega
theorem pset_W {P : Pg} (h : PgW P) {j : Nat} {v : Int} (hv : setOk j v) : PgW (pset P j v) := ⟨h.1, pset_E h.2.1 hv, h.2.2⟩
section ST3
variable {M : Mem} {q : Nat} {P : Pg}
theorem allowsSetting_eq {a v : Int} (a1 : -2147483648 ≤ a) (a2 : a < 2147483648) (v1 : -2147483648 ≤ v) (v2 : v < 2147483648) : f_X3_allowsSetting (iz a) (iz v) M = some (bz (setOk a v), M) := by
  unfold f_X3_allowsSetting
  rw [isSetting_eq a1 a2, ob_some]
  by_cases h : 0 ≤ a ∧ a < 6
  · obtain ⟨j, rfl⟩ : ∃ j : Nat, a = j := ⟨a.toNat, by omega⟩
    have hj : j < 6 := by omega
    have hl : -1 < seLo j ∧ seLo j < 2 := by unfold seLo; split <;> omega
    have hh : 0 < seHi j ∧ seHi j < 25 := by unfold seHi; split; omega; split; omega; split <;> omega
    have hk := setOk_iff hj v
    simp (disch := omega) only [iz_lit, iz_neg, iz_add, iz_sub, iz_mul, iz_lt, iz_le, iz_eq, iz_inb, iz_cl, bz_0, ob_some]
    rw [Int.toNat_natCast, sa_lo j hj, sa_hi j hj]
    simp (disch := omega) only [iz_lit, iz_neg, iz_add, iz_sub, iz_mul, iz_lt, iz_le, iz_eq, iz_inb, iz_cl, bz_0, ob_some]
    rw [if_neg (by omega), if_pos (by omega)]
    by_cases c1 : v < seLo j
    · rw [if_pos c1, bz_f (by rw [hk]; omega)]
    · rw [if_neg c1, if_pos (by omega)]
      by_cases c2 : seHi j < v
      · rw [if_pos c2, bz_f (by rw [hk]; omega)]
      · rw [if_neg c2, bz_t (by rw [hk]; omega)]
  · simp (disch := omega) only [iz_lit, iz_neg, iz_add, iz_sub, iz_mul, iz_lt, iz_le, iz_eq, iz_inb, iz_cl, bz_0, ob_some]
    rw [if_pos h, bz_f (by unfold setOk; omega)]
theorem st_set (h : StRep M q P) (j : Nat) (v : Int) : StRep (mw M (iSt q + 1) j (iz v)) q (pset P j v) := by
  obtain ⟨h1, h2, h3, h4⟩ := h
  refine ⟨by rw [mw_ne (by omega)]; exact h1, by rw [mw_ne (by omega)]; exact h2, fun j' hj' => ?_, fun s b hs hb => by rw [mw_ne (by omega)]; exact h4 s b hs hb⟩
  rw [mw_at]
  show _ = iz (if j' = j then v else gE P j')
  split
  · rfl
  · exact h3 j' hj'
theorem changeSetting_eq {j : Nat} (hj : j < 6) (v : Int32) : f_X3_changeSetting q (iz j) v M = some ((), mw M (iSt q + 1) j v) := by
  unfold f_X3_changeSetting
  rw [isSetting_eq (by omega) (by omega), ob_some]
  simp (disch := omega) only [iz_lit, iz_neg, iz_add, iz_sub, iz_mul, iz_lt, iz_le, iz_eq, iz_inb, iz_cl, bz_0, ob_some]
  rw [if_neg (by omega), if_pos (by omega), Int.toNat_natCast]
theorem becomeRests_tot (q : Nat) (a b : Int32) (M : Mem) : Tot (f_X3_becomeRests q a b M) (fun r => r.2 (iSt q) 2 = a ∧ r.2 (iSt q) 3 = b ∧ (∀ j, j < 64 → r.2 (iSt q + 2) j = iz (-9)) ∧ Off (fun d => d = iSt q ∨ d = iSt q + 2) M r.2) := by
  unfold f_X3_becomeRests
  rw [iz_lit]
  refine up_tot 64 (fun i M' => M' (iSt q) 2 = a ∧ M' (iSt q) 3 = b ∧ (∀ j, j < i → M' (iSt q + 2) j = iz (-9)) ∧ Off (fun d => d = iSt q ∨ d = iSt q + 2) M M') ?_ ?_ 9999 0 _ (by omega) ⟨by rw [mw_at, if_neg (by omega), mw_at, if_pos rfl], by rw [mw_at, if_pos rfl], fun j hj => absurd hj (Nat.not_lt_zero j), (Off.rf.put (Or.inl rfl)).put (Or.inl rfl)⟩ (by omega)
  · intro k i M1 hi ⟨h1, h2, h3, h4⟩ hk
    unfold f_X3_becomeRests_b12
    simp (disch := omega) only [iz_lit, iz_neg, iz_add, iz_sub, iz_mul, iz_lt, iz_le, iz_eq, iz_inb, iz_cl, bz_0, ob_some]
    rw [if_neg (by omega), if_pos (by omega), Int.toNat_natCast]
    refine hk _ ⟨by rw [mw_ne (by omega)]; exact h1, by rw [mw_ne (by omega)]; exact h2, fun j hj => ?_, h4.put (Or.inr rfl)⟩
    rw [mw_at]
    split
    · rfl
    · exact h3 j (by omega)
  · intro k M1 h
    unfold f_X3_becomeRests_b12
    simp (disch := omega) only [iz_lit, iz_neg, iz_add, iz_sub, iz_mul, iz_lt, iz_le, iz_eq, iz_inb, iz_cl, bz_0, ob_some]
    rw [if_pos (by omega)]
    exact Tot.mk h
theorem resetSettings_tot (q : Nat) (M : Mem) : Tot (f_X3_resetSettings q M) (fun r => (∀ j, j < 6 → r.2 (iSt q + 1) j = sa_first.getD j 0) ∧ Off (fun d => d = iSt q + 1) M r.2) := by
  unfold f_X3_resetSettings
  rw [iz_lit]
  refine up_tot 6 (fun i M' => (∀ j, j < i → M' (iSt q + 1) j = sa_first.getD j 0) ∧ Off (fun d => d = iSt q + 1) M M') ?_ ?_ 9999 0 _ (by omega) ⟨fun j hj => absurd hj (Nat.not_lt_zero j), Off.rf⟩ (by omega)
  · intro k i M1 hi ⟨h3, h4⟩ hk
    unfold f_X3_resetSettings_b2
    simp (disch := omega) only [iz_lit, iz_neg, iz_add, iz_sub, iz_mul, iz_lt, iz_le, iz_eq, iz_inb, iz_cl, bz_0, ob_some]
    rw [if_neg (by omega), if_pos (by omega), if_pos (by omega), Int.toNat_natCast]
    refine hk _ ⟨fun j hj => ?_, h4.put rfl⟩
    rw [mw_at]
    split
    · rename_i e; rw [e]; rfl
    · exact h3 j (by omega)
  · intro k M1 h
    unfold f_X3_resetSettings_b2
    simp (disch := omega) only [iz_lit, iz_neg, iz_add, iz_sub, iz_mul, iz_lt, iz_le, iz_eq, iz_inb, iz_cl, bz_0, ob_some]
    rw [if_pos (by omega)]
    exact Tot.mk h
theorem takeFrom_tot {r : Nat} (hqr : q ≠ r) (M : Mem) : Tot (f_X3_takeFrom q r M) (fun x => x.2 (iSt q) 2 = M (iSt r) 2 ∧ x.2 (iSt q) 3 = M (iSt r) 3 ∧ (∀ j, j < 6 → x.2 (iSt q + 1) j = M (iSt r + 1) j) ∧ (∀ j, j < 64 → x.2 (iSt q + 2) j = M (iSt r + 2) j) ∧ Off (RSt q) M x.2) := by
  have n0 : iSt r ≠ iSt q ∧ iSt r ≠ iSt q + 1 ∧ iSt r ≠ iSt q + 2 ∧ iSt r + 1 ≠ iSt q ∧ iSt r + 1 ≠ iSt q + 1 ∧ iSt r + 1 ≠ iSt q + 2 ∧ iSt r + 2 ≠ iSt q ∧ iSt r + 2 ≠ iSt q + 1 ∧ iSt r + 2 ≠ iSt q + 2 := by unfold iSt; omega
  unfold f_X3_takeFrom
  have hoff : ∀ M', Off (RSt q) M M' → M' (iSt r) = M (iSt r) ∧ M' (iSt r + 1) = M (iSt r + 1) ∧ M' (iSt r + 2) = M (iSt r + 2) := fun M' o => ⟨o _ (by unfold RSt iSt; omega), o _ (by unfold RSt iSt; omega), o _ (by unfold RSt iSt; omega)⟩
  rw [iz_lit]
  refine up_tot 6 (fun i M' => M' (iSt q) 2 = M (iSt r) 2 ∧ M' (iSt q) 3 = M (iSt r) 3 ∧ (∀ j, j < i → M' (iSt q + 1) j = M (iSt r + 1) j) ∧ Off (RSt q) M M') ?_ ?_ 9999 0 _ (by omega) ⟨by rw [mw_at, if_neg (by omega), mw_at, if_pos rfl], by rw [mw_at, if_pos rfl, mw_ne (by omega)], fun j hj => absurd hj (Nat.not_lt_zero j), (Off.rf.put ⟨by omega, by omega⟩).put ⟨by omega, by omega⟩⟩ (by omega)
  · intro k i M1 hi ⟨h1, h2, h3, h4⟩ hk
    unfold f_X3_takeFrom_b18
    simp (disch := omega) only [iz_lit, iz_neg, iz_add, iz_sub, iz_mul, iz_lt, iz_le, iz_eq, iz_inb, iz_cl, bz_0, ob_some]
    rw [if_neg (by omega), if_pos (by omega), if_pos (by omega), Int.toNat_natCast]
    refine hk _ ⟨by rw [mw_ne (by omega)]; exact h1, by rw [mw_ne (by omega)]; exact h2, fun j hj => ?_, h4.put ⟨by omega, by omega⟩⟩
    rw [mw_at]
    split
    · rename_i e; rw [e, (hoff M1 h4).2.1]
    · exact h3 j (by omega)
  · intro k M1 ⟨h1, h2, h3, h4⟩
    unfold f_X3_takeFrom_b18
    simp (disch := omega) only [iz_lit, iz_neg, iz_add, iz_sub, iz_mul, iz_lt, iz_le, iz_eq, iz_inb, iz_cl, bz_0, ob_some]
    rw [if_pos (by omega)]
    unfold f_X3_takeFrom_b42
    rw [iz_lit]
    refine up_tot 64 (fun i M' => M' (iSt q) 2 = M (iSt r) 2 ∧ M' (iSt q) 3 = M (iSt r) 3 ∧ (∀ j, j < 6 → M' (iSt q + 1) j = M (iSt r + 1) j) ∧ (∀ j, j < i → M' (iSt q + 2) j = M (iSt r + 2) j) ∧ Off (RSt q) M M') ?_ ?_ 9999 0 _ (by omega) ⟨h1, h2, h3, fun j hj => absurd hj (Nat.not_lt_zero j), h4⟩ (by omega)
    · intro k i M1 hi ⟨h1, h2, h3, h4, h5⟩ hk
      unfold f_X3_takeFrom_b44
      simp (disch := omega) only [iz_lit, iz_neg, iz_add, iz_sub, iz_mul, iz_lt, iz_le, iz_eq, iz_inb, iz_cl, bz_0, ob_some]
      rw [if_neg (by omega), if_pos (by omega), if_pos (by omega), Int.toNat_natCast]
      refine hk _ ⟨by rw [mw_ne (by omega)]; exact h1, by rw [mw_ne (by omega)]; exact h2, fun j hj => by rw [mw_ne (by omega)]; exact h3 j hj, fun j hj => ?_, h5.put ⟨by omega, by omega⟩⟩
      rw [mw_at]
      split
      · rename_i e; rw [e, (hoff M1 h5).2.2]
      · exact h4 j (by omega)
    · intro k M1 h
      unfold f_X3_takeFrom_b44
      simp (disch := omega) only [iz_lit, iz_neg, iz_add, iz_sub, iz_mul, iz_lt, iz_le, iz_eq, iz_inb, iz_cl, bz_0, ob_some]
      rw [if_pos (by omega)]
      exact Tot.mk h
theorem take_rep {r : Nat} (hqr : q ≠ r) (h : StRep M r P) (hP : PgD P) : Tot (f_X3_takeFrom q r M) (fun x => StRep x.2 q P ∧ Off (RSt q) M x.2) := by
  have h1 := hP.1
  have h2 := hP.2
  refine (takeFrom_tot hqr M).mono (fun x ⟨a, b, c, d, e⟩ => ⟨⟨by rw [a]; exact h.1, by rw [b]; exact h.2.1, fun j hj => by rw [c j hj]; exact h.2.2.1 j hj, fun s b hs hb => ?_⟩, e⟩)
  rw [d _ (by omega)]
  exact h.2.2.2 s b hs hb
end ST3
