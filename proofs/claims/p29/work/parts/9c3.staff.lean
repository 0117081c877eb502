/-! BEATS: staff by staff -/
theorem q0 {a : Int} (h1 : -1000 ≤ a) (h2 : a ≤ 1000) : (iz a = 0) = (a = 0) := by
  rw [show (0 : Int32) = iz 0 from rfl, iz_eq (by omega) (by omega) (by omega) (by omega)]
theorem q1 {a : Int} (h1 : -1000 ≤ a) (h2 : a ≤ 1000) : (iz a = 1) = (a = 1) := by
  rw [show (1 : Int32) = iz 1 from rfl, iz_eq (by omega) (by omega) (by omega) (by omega)]
theorem q2 {a : Int} (h1 : -1000 ≤ a) (h2 : a ≤ 1000) : (iz a = 2) = (a = 2) := by
  rw [show (2 : Int32) = iz 2 from rfl, iz_eq (by omega) (by omega) (by omega) (by omega)]
theorem q9 {a : Int} (h1 : -1000 ≤ a) (h2 : a ≤ 1000) : (iz a = -9) = (a = -9) := by
  rw [show (-9 : Int32) = iz (-9) from rfl, iz_eq (by omega) (by omega) (by omega) (by omega)]
theorem q99 {a : Int} (h1 : -1000 ≤ a) (h2 : a ≤ 1000) : (iz a = 99) = (a = 99) := by
  rw [show (99 : Int32) = iz 99 from rfl, iz_eq (by omega) (by omega) (by omega) (by omega)]
theorem qle0 {a : Int} (h1 : -1000 ≤ a) (h2 : a ≤ 1000) : (iz a ≤ 0) = (a ≤ 0) := by
  rw [show (0 : Int32) = iz 0 from rfl, iz_le (by omega) (by omega) (by omega) (by omega)]
theorem qb (x : Bool) : -1000 ≤ b01 x ∧ b01 x ≤ 1000 := by
  have := b01_rng x
  omega
theorem nzb (x : Bool) : (iz (b01 x) = 0) = (x = false) := by
  rw [q0 (qb x).1 (qb x).2]
  cases x
  · exact propext ⟨fun _ => rfl, fun _ => rfl⟩
  · exact propext ⟨fun h => absurd h (by decide), fun h => absurd h (by decide)⟩
theorem B4.to {M0 M : Mem} {D : Ds} {r r' : Nat → Int} (h : B4 M0 D r M) (e : ∀ j, 1 ≤ j → j < 4 → r' j = r j) : B4 M0 D r' M := ⟨h.1, h.2.1, fun j h1 h4 => by rw [e j h1 h4]; exact h.2.2 j h1 h4⟩
theorem B4.bump {M0 M : Mem} {D : Ds} {r : Nat → Int} (h : B4 M0 D r M) (n : Nat) : B4 M0 D (fun j => r j + if (n : Int) = (j : Int) then 1 else 0) (mw M 43 n (M 43 n + 1)) := by
  refine ⟨h.1.same (fun d hd => mw_ne (by unfold CI at hd; omega)), h.2.1.put (Or.inr rfl), fun j h1 h4 => ?_⟩
  rw [mw_at]
  by_cases e : j = n
  · subst e
    rw [if_pos rfl, h.2.2 j h1 h4, show (1 : Int32) = iz 1 from rfl, iz_add]
    show _ = iz (r j + if (j : Int) = (j : Int) then 1 else 0)
    rw [if_pos rfl]
  · rw [if_neg e, h.2.2 j h1 h4]
    show _ = iz (r j + if (n : Int) = (j : Int) then 1 else 0)
    rw [if_neg (by omega), Int.add_zero]
section BF
variable {D : Ds} {M0 : Mem} {r : Nat → Int} {Q : Int32 × Mem → Prop}
variable {k31 : Int32 → Int32 → Int32 → Int32 → Int32 → Int32 → Int32 → Mem → Option (Int32 × Mem)} {K : Int32 → Int32 → Int32 → Int32 → Int32 → Mem → Option (Int32 × Mem)} {k676 : Int32 → Int32 → Int32 → Mem → Option (Int32 × Mem)} {v2 v3 v4 v5 v6 v10 v11 v12 : Int32}
theorem dbl_748 {sm oc is : Bool} {d : Int} {b t k : Nat} (h1 : -80 ≤ d) (h2 : d < 80) {M : Mem}
    (hk : Tot (k676 (iz (b01 (sm || (is && decide (d = 0))))) (iz (b01 (oc || (is && decide (d ≠ 0 ∧ d % 12 = 0))))) (iz ((k + 1 : Nat) : Int)) M) Q) : Tot (f_L_beats_b748 (iz (gS (dP D) : Int)) v2 v3 v4 v5 v6 (iz (b : Int)) (iz (sq (dP D) b : Int)) v11 v12 (iz (t : Int)) (iz (sp (dP D) b t)) (iz (rho (dP D) b t)) (iz (b01 (decide (gC (dP D) t b = 99)))) (iz (b01 (cutH (dP D) b t))) (iz (b01 sm)) (iz (b01 oc)) (iz (k : Int)) (iz d) k31 K k676 (iz (b01 is)) M) Q := by
  have e0 : (iz d = 0) = (d = 0) := q0 (by omega) (by omega)
  have e12 := far12 h1 h2
  have fin : ∀ x y : Int32, x = iz (b01 (sm || (is && decide (d = 0)))) → y = iz (b01 (oc || (is && decide (d ≠ 0 ∧ d % 12 = 0)))) → Tot (k676 x y (iz (k : Int) + 1) M) Q := fun x y ex ey => by
    rw [ex, ey, a1z]
    exact hk
  have c770 : ∀ s : Int32, s = iz (b01 (sm || (is && decide (d = 0)))) → Tot (f_L_beats_b770 (iz (gS (dP D) : Int)) v2 v3 v4 v5 v6 (iz (b : Int)) (iz (sq (dP D) b : Int)) v11 v12 (iz (t : Int)) (iz (sp (dP D) b t)) (iz (rho (dP D) b t)) (iz (b01 (decide (gC (dP D) t b = 99)))) (iz (b01 (cutH (dP D) b t))) (iz (b01 oc)) (iz (k : Int)) (iz d) (iz (b01 is)) k31 K k676 s M) Q := fun s hs => by
    unfold f_L_beats_b770 f_L_beats_b795
    cases oc with
    | true => rw [if_neg (by rw [nzb]; decide)]; exact fin _ _ hs rfl
    | false =>
      rw [if_pos (by rw [nzb])]
      cases is with
      | false => rw [if_pos (by rw [nzb])]; exact fin _ _ hs rfl
      | true =>
        rw [if_neg (by rw [nzb]; decide)]
        by_cases z : d = 0
        · rw [if_pos (by rw [e0]; exact z)]
          exact fin _ _ hs (by rw [decide_eq_false (fun y => y.1 z)]; rfl)
        · rw [if_neg (by rw [e0]; exact z)]
          by_cases w : d % 12 = 0
          · rw [if_pos (e12.mpr w)]
            exact fin _ _ hs (by rw [decide_eq_true (show d ≠ 0 ∧ d % 12 = 0 from ⟨z, w⟩)]; rfl)
          · rw [if_neg (fun y => w (e12.mp y))]
            exact fin _ _ hs (by rw [decide_eq_false (fun y => w y.2)]; rfl)
  unfold f_L_beats_b748 f_L_beats_b765 f_L_beats_b769
  cases sm with
  | true => rw [if_neg (by rw [nzb]; decide)]; exact c770 _ rfl
  | false =>
    rw [if_pos (by rw [nzb])]
    cases is with
    | false => rw [if_pos (by rw [nzb])]; exact c770 _ rfl
    | true =>
      rw [if_neg (by rw [nzb]; decide)]
      by_cases z : d = 0
      · rw [if_pos (by rw [e0]; exact z)]
        exact c770 _ (by rw [decide_eq_true z]; rfl)
      · rw [if_neg (by rw [e0]; exact z)]
        exact c770 _ (by rw [decide_eq_false z]; rfl)
def Dbl (P : Pg) (b t k : Nat) : Prop := k ≠ t ∧ sp P b k ≠ -9 ∧ rho P b k ≠ 1 ∧ rho P b k ≠ 2
theorem dbl_loop (hD : DOk D) {b t : Nat} (hb : b < gB (dP D)) (ht : t < gS (dP D)) (hn : 0 ≤ sp (dP D) b t ∧ sp (dP D) b t ≤ 60) {M : Mem} (hM : B4 M0 D r M)
    (hK : ∀ (sm oc : Bool) (M : Mem), ((∃ k, k < gS (dP D) ∧ Dbl (dP D) b t k ∧ sp (dP D) b k - sp (dP D) b t = 0) → sm = true) → ((∃ k, k < gS (dP D) ∧ Dbl (dP D) b t k ∧ sp (dP D) b k - sp (dP D) b t ≠ 0 ∧ (sp (dP D) b k - sp (dP D) b t) % 12 = 0) → oc = true) → B4 M0 D r M → Tot (f_L_beats_b808 (iz (gS (dP D) : Int)) v2 v3 v4 v5 v6 (iz (b : Int)) (iz (sq (dP D) b : Int)) v11 v12 (iz (t : Int)) (iz (sp (dP D) b t)) (iz (rho (dP D) b t)) (iz (b01 (decide (gC (dP D) t b = 99)))) (iz (b01 (cutH (dP D) b t))) (iz (b01 sm)) (iz (b01 oc)) k31 K M) Q) : Tot (lq3 (f_L_beats_b676 (iz (gS (dP D) : Int)) v2 v3 v4 v5 v6 (iz (b : Int)) (iz (sq (dP D) b : Int)) v11 v12 (iz (t : Int)) (iz (sp (dP D) b t)) (iz (rho (dP D) b t)) (iz (b01 (decide (gC (dP D) t b = 99)))) (iz (b01 (cutH (dP D) b t))) k31 K) 5 0 0 (iz ((0 : Nat) : Int)) M) Q := by
  have hP := hD.2.2.1
  have h1 := hP.1.1.1
  have h2 := hP.1.1.2
  refine up3_tot (gS (dP D)) (fun i x y M' => ∃ sm oc : Bool, x = iz (b01 sm) ∧ y = iz (b01 oc) ∧ ((∃ k, k < i ∧ Dbl (dP D) b t k ∧ sp (dP D) b k - sp (dP D) b t = 0) → sm = true) ∧ ((∃ k, k < i ∧ Dbl (dP D) b t k ∧ sp (dP D) b k - sp (dP D) b t ≠ 0 ∧ (sp (dP D) b k - sp (dP D) b t) % 12 = 0) → oc = true) ∧ B4 M0 D r M') ?_ ?_ 5 0 0 0 M (by omega) ⟨false, false, rfl, rfl, fun ⟨k, hk, _⟩ => absurd hk (Nat.not_lt_zero k), fun ⟨k, hk, _⟩ => absurd hk (Nat.not_lt_zero k), hM⟩ (by omega)
  · intro k676 k x y M hk ⟨sm, oc, ex, ey, hsm, hoc, hM⟩ hK2
    subst ex ey
    have c := sp_c hP hk hb
    have rr := rho_cases (P := dP D) b k
    unfold f_L_beats_b676
    rw [if_neg (by rw [lez (by omega) (by omega)]; omega)]
    refine stp4 (a_cells hD hk hb rfl rfl) hM (fun M hM => ?_)
    rw [iz_sub]
    have fin : ∀ is : Bool, (Dbl (dP D) b t k → is = true) → (is = true → Dbl (dP D) b t k) → ∀ M, B4 M0 D r M → Tot (f_L_beats_b748 (iz (gS (dP D) : Int)) v2 v3 v4 v5 v6 (iz (b : Int)) (iz (sq (dP D) b : Int)) v11 v12 (iz (t : Int)) (iz (sp (dP D) b t)) (iz (rho (dP D) b t)) (iz (b01 (decide (gC (dP D) t b = 99)))) (iz (b01 (cutH (dP D) b t))) (iz (b01 sm)) (iz (b01 oc)) (iz (k : Int)) (iz (sp (dP D) b k - sp (dP D) b t)) k31 K k676 (iz (b01 is)) M) Q := fun is hi hj M hM => by
      refine dbl_748 (by omega) (by omega) (hK2 _ _ M ⟨_, _, rfl, rfl, ?_, ?_, hM⟩)
      · intro ⟨j, j1, j2, j3⟩
        rw [Bool.or_eq_true, Bool.and_eq_true]
        by_cases e : j = k
        · subst e; exact Or.inr ⟨hi j2, decide_eq_true j3⟩
        · exact Or.inl (hsm ⟨j, by omega, j2, j3⟩)
      · intro ⟨j, j1, j2, j3⟩
        rw [Bool.or_eq_true, Bool.and_eq_true]
        by_cases e : j = k
        · subst e; exact Or.inr ⟨hi j2, decide_eq_true j3⟩
        · exact Or.inl (hoc ⟨j, by omega, j2, j3⟩)
    have no : ¬ Dbl (dP D) b t k → ∀ M, B4 M0 D r M → Tot (f_L_beats_b747 (iz (gS (dP D) : Int)) v2 v3 v4 v5 v6 (iz (b : Int)) (iz (sq (dP D) b : Int)) v11 v12 (iz (t : Int)) (iz (sp (dP D) b t)) (iz (rho (dP D) b t)) (iz (b01 (decide (gC (dP D) t b = 99)))) (iz (b01 (cutH (dP D) b t))) (iz (b01 sm)) (iz (b01 oc)) (iz (k : Int)) (iz (sp (dP D) b k - sp (dP D) b t)) k31 K k676 M) Q := fun z M hM => by
      unfold f_L_beats_b747
      exact fin false (fun y => absurd y z) (fun y => absurd y (by decide)) M hM
    by_cases a1 : k = t
    · rw [if_pos (by rw [a1])]
      exact no (fun z => z.1 a1) M hM
    · rw [if_neg (by rw [iz_eq (by omega) (by omega) (by omega) (by omega)]; omega)]
      refine stp4 (a_cells hD hk hb rfl rfl) hM (fun M hM => ?_)
      by_cases a2 : sp (dP D) b k = -9
      · rw [if_pos (by rw [a2]; rfl)]
        exact no (fun z => z.2.1 a2) M hM
      · rw [if_neg (by rw [q9 (by omega) (by omega)]; exact a2)]
        refine stp4 (a_note hD hk hb (w := 1) (by omega) rfl rfl rfl) hM (fun M hM => ?_)
        rw [note_1]
        by_cases a3 : rho (dP D) b k = 1
        · rw [if_pos (by rw [a3]; rfl)]
          exact no (fun z => z.2.2.1 a3) M hM
        · rw [if_neg (by rw [q1 (by omega) (by omega)]; exact a3)]
          refine stp4 (a_note hD hk hb (w := 1) (by omega) rfl rfl rfl) hM (fun M hM => ?_)
          rw [note_1]
          by_cases a4 : rho (dP D) b k = 2
          · rw [if_pos (by rw [a4]; rfl)]
            exact no (fun z => z.2.2.2 a4) M hM
          · rw [if_neg (by rw [q2 (by omega) (by omega)]; exact a4)]
            exact fin true (fun _ => rfl) (fun _ => ⟨a1, a2, a3, a4⟩) M hM
  · intro k676 x y M ⟨sm, oc, ex, ey, hsm, hoc, hM⟩
    subst ex ey
    unfold f_L_beats_b676
    rw [if_pos (Int32.le_refl _)]
    exact hK sm oc M hsm hoc hM
theorem staff_check (hD : DOk D) {b t : Nat} (hb : b < gB (dP D)) (ht : t < gS (dP D)) (hn : sp (dP D) b t ≠ -9) {sm oc : Bool} (hsm : rho (dP D) b t = 1 → sm = true) (hoc : rho (dP D) b t = 2 → oc = true) {s0 : Int32} (hs0 : rho (dP D) b t ≠ 0 → s0 ≠ 0) {M : Mem} (hM : B4 M0 D r M)
    (hK : ∀ M, B4 M0 D r M → Tot (K v3 v6 1 v12 (iz ((t + 1 : Nat) : Int)) M) Q) : Tot (f_L_beats_b889 (iz (gS (dP D) : Int)) v2 v3 v4 v5 v6 (iz (b : Int)) (iz (sq (dP D) b : Int)) v11 v12 (iz (t : Int)) (iz (sp (dP D) b t)) (iz (rho (dP D) b t)) (iz (b01 (decide (gC (dP D) t b = 99)))) (iz (b01 (cutH (dP D) b t))) (iz (b01 sm)) (iz (b01 oc)) k31 K s0 M) Q := by
  have hP := hD.2.2.1
  have h1 := hP.1.1.1
  have h2 := hP.1.1.2
  have rn : rho (dP D) b t ≠ -9 := fun z => hn ((rho_none b t).mp z)
  have rr := rho_cases (P := dP D) b t
  have nc := note0_c (dP D) t b
  have hc := cOk_lt (hP.1.2.2 t b ht hb)
  have cu : cutH (dP D) b t = true → gC (dP D) t b = 99 ∧ rho (dP D) b t = 0 := fun z => ⟨(cut_of hP hb z).1.2, (cut_of hP hb z).2⟩
  have c1032 : ∀ M, B4 M0 D r M → Tot (f_L_beats_b1032 (iz (gS (dP D) : Int)) v2 v3 v4 v5 v6 (iz (b : Int)) (iz (sq (dP D) b : Int)) v11 v12 (iz (t : Int)) (iz (sp (dP D) b t)) (iz (rho (dP D) b t)) (iz (b01 (decide (gC (dP D) t b = 99)))) (iz (b01 (cutH (dP D) b t))) k31 K 1 M) Q := fun M hM => by
    unfold f_L_beats_b1032
    rw [a1z]
    by_cases ho : gC (dP D) t b = 99
    · rw [if_neg (by rw [nzb, decide_eq_true ho]; decide)]
      by_cases z : rho (dP D) b t = 0
      · obtain ⟨b0, hbef⟩ := hold_before hP ht hb ho
        rw [if_pos (by rw [z]; rfl), if_neg (by decide), if_neg (by rw [qle0 (by omega) (by omega)]; omega)]
        refine stp4 (a_note hD ht (b := b - 1) (by omega) (w := 0) (by omega) rfl (pm1 b b0) rfl) hM (fun M hM => ?_)
        refine stp4 (a_note hD ht hb (w := 0) (by omega) rfl rfl rfl) hM (fun M hM => ?_)
        have ch := cut_hand hP hb b0 ht ho z
        have nb := note0_c (dP D) t (b - 1)
        have c1084 : ∀ s : Int32, (iz (b01 (cutH (dP D) b t))) = s → ∀ M, B4 M0 D r M → Tot (f_L_beats_b1084 (iz (gS (dP D) : Int)) v2 v3 v4 v5 v6 (iz (b : Int)) (iz (sq (dP D) b : Int)) v11 v12 (iz (t : Int)) (iz (sp (dP D) b t)) k31 K s (iz (b01 (cutH (dP D) b t))) M) Q := fun s hs M hM => by
          unfold f_L_beats_b1084
          rw [if_pos hs]
          refine stp4 (a_cells hD ht (b := b - 1) (by omega) rfl (pm1 b b0)) hM (fun M hM => ?_)
          rw [hbef, if_pos rfl, a1z]
          exact hK M hM
        by_cases y : nNote (dP D) t (b - 1) 0 = nNote (dP D) t b 0
        · rw [if_pos (by rw [y])]
          refine c1084 0 ?_ M hM
          rw [nzb]
          by_cases x : cutH (dP D) b t = true
          · exact absurd y (ch.mp x)
          · simpa using x
        · rw [if_neg (by rw [iz_eq (by omega) (by omega) (by omega) (by omega)]; exact y)]
          refine c1084 1 ?_ M hM
          rw [ch.mpr y]; rfl
      · rw [if_neg (by rw [q0 (by omega) (by omega)]; exact z)]
        exact hK M hM
    · rw [if_pos (by rw [nzb]; exact decide_eq_false ho)]
      exact hK M hM
  have c1009 : ∀ x s : Int32, x = s → ∀ M, B4 M0 D r M → Tot (f_L_beats_b1009 (iz (gS (dP D) : Int)) v2 v3 v4 v5 v6 (iz (b : Int)) (iz (sq (dP D) b : Int)) v11 v12 (iz (t : Int)) (iz (sp (dP D) b t)) (iz (rho (dP D) b t)) (iz (b01 (decide (gC (dP D) t b = 99)))) (iz (b01 (cutH (dP D) b t))) k31 K s x M) Q := fun x s hx M hM => by
    unfold f_L_beats_b1009 f_L_beats_b1027
    rw [if_pos hx]
    by_cases c : cutH (dP D) b t = true
    · rw [if_neg (by rw [nzb, c]; decide), if_neg (by rw [nzb, decide_eq_true (cu c).1]; decide), if_pos (by rw [(cu c).2]; rfl)]
      exact c1032 M hM
    · rw [if_pos (by rw [nzb]; simpa using c)]
      exact c1032 M hM
  have c943 : ∀ M, B4 M0 D r M → Tot (f_L_beats_b943 (iz (gS (dP D) : Int)) v2 v3 v4 v5 v6 (iz (b : Int)) (iz (sq (dP D) b : Int)) v11 v12 (iz (t : Int)) (iz (sp (dP D) b t)) (iz (rho (dP D) b t)) (iz (b01 (decide (gC (dP D) t b = 99)))) (iz (b01 (cutH (dP D) b t))) k31 K M) Q := fun M hM => by
    have c972 : ∀ x s : Int32, x = s → ∀ M, B4 M0 D r M → Tot (f_L_beats_b972 (iz (gS (dP D) : Int)) v2 v3 v4 v5 v6 (iz (b : Int)) (iz (sq (dP D) b : Int)) v11 v12 (iz (t : Int)) (iz (sp (dP D) b t)) (iz (rho (dP D) b t)) (iz (b01 (decide (gC (dP D) t b = 99)))) (iz (b01 (cutH (dP D) b t))) k31 K s x M) Q := fun x s hx M hM => by
      unfold f_L_beats_b972 f_L_beats_b1004
      rw [if_pos hx]
      refine stp4 (a_note hD ht hb (w := 2) (by omega) rfl rfl rfl) hM (fun M hM => ?_)
      rw [note_2]
      by_cases z : rho (dP D) b t = 0
      · rw [if_pos (show (iz (rho (dP D) b t)) ≤ 0 by rw [qle0 (by omega) (by omega)]; omega)]
        by_cases c : cutH (dP D) b t = true
        · rw [if_neg (show ¬ (iz (b01 (cutH (dP D) b t))) = 0 by rw [nzb, c]; decide)]
          refine c1009 _ _ ?_ M hM
          rw [if_pos z, if_neg (fun y => by rw [c] at y; exact absurd y.2 (by decide))]; rfl
        · have c : cutH (dP D) b t = false := by simpa using c
          rw [if_pos (show (iz (b01 (cutH (dP D) b t))) = 0 by rw [nzb]; exact c)]
          by_cases ho : gC (dP D) t b = 99
          · rw [if_neg (show ¬ (iz (b01 (decide (gC (dP D) t b = 99)))) = 0 by rw [nzb, decide_eq_true ho]; decide)]
            refine c1009 _ _ ?_ M hM
            rw [if_pos z, if_pos ⟨⟨ht, ho⟩, c⟩]; rfl
          · rw [if_pos (show (iz (b01 (decide (gC (dP D) t b = 99)))) = 0 by rw [nzb]; exact decide_eq_false ho)]
            refine c1009 _ _ ?_ M hM
            rw [if_pos z, if_neg (fun y => ho y.1.2)]; rfl
      · rw [if_neg (show ¬ (iz (rho (dP D) b t)) ≤ 0 by rw [qle0 (by omega) (by omega)]; omega)]
        refine c1009 _ _ ?_ M hM
        rw [if_neg z]; rfl
    unfold f_L_beats_b943 f_L_beats_b962
    refine stp4 (a_note hD ht hb (w := 0) (by omega) rfl rfl rfl) hM (fun M hM => ?_)
    rw [note_0]
    by_cases z : rho (dP D) b t = 0
    · have le : (iz (rho (dP D) b t)) ≤ 0 := by rw [qle0 (by omega) (by omega)]; omega
      rw [if_neg (by rw [if_pos z]; split <;> decide), if_pos le]
      exact c972 _ _ rfl M hM
    · have le : ¬ (iz (rho (dP D) b t)) ≤ 0 := by rw [qle0 (by omega) (by omega)]; omega
      rw [if_pos (by rw [if_neg z]; rfl), if_neg le]
      exact c972 _ _ rfl M hM
  have c912 : ∀ M, B4 M0 D r M → Tot (f_L_beats_b912 (iz (gS (dP D) : Int)) v2 v3 v4 v5 v6 (iz (b : Int)) (iz (sq (dP D) b : Int)) v11 v12 (iz (t : Int)) (iz (sp (dP D) b t)) (iz (rho (dP D) b t)) (iz (b01 (decide (gC (dP D) t b = 99)))) (iz (b01 (cutH (dP D) b t))) (iz (b01 sm)) (iz (b01 oc)) k31 K M) Q := fun M hM => by
    have c923 : ∀ M, B4 M0 D r M → Tot (f_L_beats_b923 (iz (gS (dP D) : Int)) v2 v3 v4 v5 v6 (iz (b : Int)) (iz (sq (dP D) b : Int)) v11 v12 (iz (t : Int)) (iz (sp (dP D) b t)) (iz (rho (dP D) b t)) (iz (b01 (decide (gC (dP D) t b = 99)))) (iz (b01 (cutH (dP D) b t))) (iz (b01 oc)) k31 K M) Q := fun M hM => by
      unfold f_L_beats_b923
      by_cases z : rho (dP D) b t = 2
      · rw [if_pos (by rw [z]; rfl), if_neg (by rw [nzb, hoc z]; decide)]
        refine stp4 (a_E hD (j := 4) (by omega) rfl) hM (fun M hM => ?_)
        rw [(reason_2 hP z).1, if_pos (show (iz 1 : Int32) = 1 from rfl)]
        exact c943 M hM
      · rw [if_neg (by rw [q2 (by omega) (by omega)]; exact z)]
        exact c943 M hM
    unfold f_L_beats_b912
    by_cases z : rho (dP D) b t = 1
    · rw [if_pos (by rw [z]; rfl), if_neg (by rw [nzb, hsm z]; decide)]
      exact c923 M hM
    · rw [if_neg (by rw [q1 (by omega) (by omega)]; exact z)]
      exact c923 M hM
  unfold f_L_beats_b889
  rw [if_neg (by rw [show (0 : Int32) = iz 0 from rfl, iz_lt (by omega) (by omega) (by omega) (by omega)]; omega), if_neg (by rw [show (4 : Int32) = iz 4 from rfl, iz_le (by omega) (by omega) (by omega) (by omega)]; omega)]
  by_cases z : rho (dP D) b t = 0
  · rw [if_pos (by rw [z]; rfl)]
    exact c912 M hM
  · rw [if_neg (by rw [q0 (by omega) (by omega)]; exact z), if_neg (hs0 z)]
    exact c912 M hM
theorem staff_sums (hD : DOk D) {b t : Nat} (hb : b < gB (dP D)) (ht : t < gS (dP D)) (hn : sp (dP D) b t ≠ -9) {sm oc : Bool} (hsm : rho (dP D) b t = 1 → sm = true) (hoc : rho (dP D) b t = 2 → oc = true) {c st he : Int} {M : Mem} (hM : B4 M0 D r M)
    (hK : ∀ M, B4 M0 D (fun j => r j + if rho (dP D) b t = (j : Int) then 1 else 0) M → Tot (K (iz (c + (b01 (cutH (dP D) b t)))) (iz (st + (stk (dP D) b t (rho (dP D) b t) (cutH (dP D) b t)))) 1 (iz (he + 10 * (b01 (cutH (dP D) b t)))) (iz ((t + 1 : Nat) : Int)) M) Q) : Tot (f_L_beats_b808 (iz (gS (dP D) : Int)) v2 (iz c) v4 v5 (iz st) (iz (b : Int)) (iz (sq (dP D) b : Int)) v11 (iz he) (iz (t : Int)) (iz (sp (dP D) b t)) (iz (rho (dP D) b t)) (iz (b01 (decide (gC (dP D) t b = 99)))) (iz (b01 (cutH (dP D) b t))) (iz (b01 sm)) (iz (b01 oc)) k31 K M) Q := by
  have hP := hD.2.2.1
  have h1 := hP.1.1.1
  have h2 := hP.1.1.2
  have rn : rho (dP D) b t ≠ -9 := fun z => hn ((rho_none b t).mp z)
  have rr := rho_cases (P := dP D) b t
  have c868 : ∀ s : Int32, s = iz (10 * (b01 (cutH (dP D) b t))) → ∀ M, B4 M0 D (fun j => r j + if rho (dP D) b t = (j : Int) then 1 else 0) M → Tot (f_L_beats_b868 (iz (gS (dP D) : Int)) v2 (iz (c + (b01 (cutH (dP D) b t)))) v4 v5 (iz (st + (stk (dP D) b t (rho (dP D) b t) (cutH (dP D) b t)))) (iz (b : Int)) (iz (sq (dP D) b : Int)) v11 (iz (t : Int)) (iz (sp (dP D) b t)) (iz (rho (dP D) b t)) (iz (b01 (decide (gC (dP D) t b = 99)))) (iz (b01 (cutH (dP D) b t))) (iz (b01 sm)) (iz (b01 oc)) k31 K s (iz he) M) Q := fun s hs M hM => by
    unfold f_L_beats_b868 f_L_beats_b888
    rw [hs, iz_add]
    have inn := @rho_inner (dP D) b t
    by_cases a : t = 0
    · rw [if_pos (by rw [qle0 (by omega) (by omega)]; omega)]
      exact staff_check hD hb ht hn hsm hoc (fun z => absurd (inn (by omega)) (by omega)) hM hK
    · rw [if_neg (by rw [qle0 (by omega) (by omega)]; omega)]
      have pm : iz (gS (dP D) : Int) - 1 = iz ((gS (dP D) - 1 : Nat) : Int) := pm1 _ (by omega)
      by_cases d : gS (dP D) - 1 ≤ t
      · rw [if_pos (by rw [pm, lez (by omega) (by omega)]; exact d)]
        exact staff_check hD hb ht hn hsm hoc (fun z => absurd (inn (by omega)) (by omega)) hM hK
      · rw [if_neg (by rw [pm, lez (by omega) (by omega)]; exact d)]
        exact staff_check hD hb ht hn hsm hoc (fun _ => by decide) hM hK
  have c853 : ∀ s : Int32, s = iz (b01 (cutH (dP D) b t)) → ∀ M, B4 M0 D (fun j => r j + if rho (dP D) b t = (j : Int) then 1 else 0) M → Tot (f_L_beats_b853 (iz (gS (dP D) : Int)) v2 v4 v5 (iz (st + (stk (dP D) b t (rho (dP D) b t) (cutH (dP D) b t)))) (iz (b : Int)) (iz (sq (dP D) b : Int)) v11 (iz he) (iz (t : Int)) (iz (sp (dP D) b t)) (iz (rho (dP D) b t)) (iz (b01 (decide (gC (dP D) t b = 99)))) (iz (b01 (cutH (dP D) b t))) (iz (b01 sm)) (iz (b01 oc)) k31 K s (iz c) M) Q := fun s hs M hM => by
    unfold f_L_beats_b853
    rw [hs, iz_add]
    by_cases x : cutH (dP D) b t = true
    · rw [if_neg (by rw [nzb, x]; decide)]
      exact c868 _ (by rw [x]; rfl) M hM
    · have x : cutH (dP D) b t = false := by simpa using x
      rw [if_pos (by rw [nzb]; exact x)]
      exact c868 _ (by rw [x]; rfl) M hM
  have c839 : ∀ s : Int32, s = iz (stk (dP D) b t (rho (dP D) b t) (cutH (dP D) b t)) → ∀ M, B4 M0 D (fun j => r j + if rho (dP D) b t = (j : Int) then 1 else 0) M → Tot (f_L_beats_b839 (iz (gS (dP D) : Int)) v2 (iz c) v4 v5 (iz (b : Int)) (iz (sq (dP D) b : Int)) v11 (iz he) (iz (t : Int)) (iz (sp (dP D) b t)) (iz (rho (dP D) b t)) (iz (b01 (decide (gC (dP D) t b = 99)))) (iz (b01 (cutH (dP D) b t))) (iz (b01 sm)) (iz (b01 oc)) k31 K s (iz st) M) Q := fun s hs M hM => by
    unfold f_L_beats_b839
    rw [hs, iz_add]
    by_cases x : cutH (dP D) b t = true
    · rw [if_neg (by rw [nzb, x]; decide)]
      exact c853 _ (by rw [x]; rfl) M hM
    · have x : cutH (dP D) b t = false := by simpa using x
      rw [if_pos (by rw [nzb]; exact x)]
      exact c853 _ (by rw [x]; rfl) M hM
  obtain ⟨n, hn4⟩ : ∃ n : Nat, rho (dP D) b t = (n : Int) := ⟨(rho (dP D) b t).toNat, by omega⟩
  have n4 : n < 4 := by omega
  have hM1 := hM.bump n
  rw [← hn4] at hM1
  unfold f_L_beats_b808
  rw [if_pos (by rw [hn4]; exact inb_n n4 (by omega)), if_pos (by rw [hn4]; exact inb_n n4 (by omega)), show Int32.toNatClampNeg (iz (rho (dP D) b t)) = n by rw [hn4]; exact cl_n (by omega)]
  unfold f_L_beats_b834 f_L_beats_b838
  by_cases z : rho (dP D) b t = 0
  · rw [if_pos (show (iz (rho (dP D) b t)) = 0 by rw [z]; rfl)]
    by_cases x : cutH (dP D) b t = true
    · rw [if_neg (show ¬ (iz (b01 (cutH (dP D) b t))) = 0 by rw [nzb, x]; decide)]
      refine c839 _ ?_ _ hM1
      unfold stk
      rw [if_pos ⟨z, Or.inl x⟩]; rfl
    · have x : cutH (dP D) b t = false := by simpa using x
      rw [if_pos (show (iz (b01 (cutH (dP D) b t))) = 0 by rw [nzb]; exact x)]
      by_cases ho : gC (dP D) t b = 99
      · rw [if_neg (show ¬ (iz (b01 (decide (gC (dP D) t b = 99)))) = 0 by rw [nzb, decide_eq_true ho]; decide)]
        refine c839 _ ?_ _ hM1
        unfold stk
        rw [x, if_neg (fun y => ?_)]
        · rfl
        · rcases y.2 with w | w
          · exact absurd w (by decide)
          · exact w ⟨ht, ho⟩
      · rw [if_pos (show (iz (b01 (decide (gC (dP D) t b = 99)))) = 0 by rw [nzb]; exact decide_eq_false ho)]
        refine c839 _ ?_ _ hM1
        unfold stk
        rw [if_pos ⟨z, Or.inr (fun w => ho w.2)⟩]; rfl
  · rw [if_neg (show ¬ (iz (rho (dP D) b t)) = 0 by rw [q0 (by omega) (by omega)]; exact z)]
    refine c839 _ ?_ _ hM1
    unfold stk
    rw [if_neg (fun y => z y.1)]; rfl
theorem staff_step (hD : DOk D) {b t : Nat} (hb : b < gB (dP D)) (ht : t < gS (dP D)) {c st he : Int} {M : Mem} (hM : B4 M0 D r M)
    (hK : ∀ M, B4 M0 D (fun j => r j + if rho (dP D) b t = (j : Int) then 1 else 0) M → Tot (K (iz (c + (b01 (cutH (dP D) b t)))) (iz (st + (stk (dP D) b t (rho (dP D) b t) (cutH (dP D) b t)))) 1 (iz (he + 10 * (b01 (cutH (dP D) b t)))) (iz ((t + 1 : Nat) : Int)) M) Q) : Tot (f_L_beats_b527 (iz (gS (dP D) : Int)) v2 v4 v5 (iz (b : Int)) (iz (sq (dP D) b : Int)) v11 k31 K (iz c) (iz st) 1 (iz he) (iz (t : Int)) M) Q := by
  have hP := hD.2.2.1
  have h1 := hP.1.1.1
  have h2 := hP.1.1.2
  have rr := rho_cases (P := dP D) b t
  have cs := sp_c hP ht hb
  have hc := cOk_lt (hP.1.2.2 t b ht hb)
  have cu : cutH (dP D) b t = true → gC (dP D) t b = 99 ∧ rho (dP D) b t = 0 := fun z => ⟨(cut_of hP hb z).1.2, (cut_of hP hb z).2⟩
  have c599 : ∀ s : Int32, s = (iz (b01 (cutH (dP D) b t))) → ∀ M, B4 M0 D r M → Tot (f_L_beats_b599 (iz (gS (dP D) : Int)) v2 (iz c) v4 v5 (iz st) (iz (b : Int)) (iz (sq (dP D) b : Int)) v11 (iz he) (iz (t : Int)) (iz (sp (dP D) b t)) (iz (rho (dP D) b t)) (iz (b01 (decide (gC (dP D) t b = 99)))) k31 K s M) Q := fun s hs M hM => by
    unfold f_L_beats_b599
    rw [hs]
    by_cases n : sp (dP D) b t = -9
    · have rn := (rho_none (P := dP D) b t).mpr n
      have x : cutH (dP D) b t = false := by
        by_cases z : cutH (dP D) b t = true
        · have := (cu z).2
          omega
        · simpa using z
      have sk : (stk (dP D) b t (rho (dP D) b t) (cutH (dP D) b t)) = 0 := by
        unfold stk
        rw [if_neg (fun y => by have := y.1; omega)]
      have fin := hK
      rw [show c + (b01 (cutH (dP D) b t)) = c by rw [x]; exact Int.add_zero c, sk, Int.add_zero, show he + 10 * (b01 (cutH (dP D) b t)) = he by rw [x]; exact Int.add_zero he] at fin
      rw [if_pos (by rw [n]; rfl), if_pos (by rw [rn]; rfl)]
      refine stp4 (a_note hD ht hb (w := 0) (by omega) rfl rfl rfl) hM (fun M hM => ?_)
      rw [if_pos (by rw [note_0, rn, if_neg (by decide)]; rfl)]
      refine stp4 (a_note hD ht hb (w := 2) (by omega) rfl rfl rfl) hM (fun M hM => ?_)
      rw [if_pos (by rw [note_2, rn, if_neg (by decide)]; rfl)]
      refine stp4 (a_cellw hD ht hb rfl rfl) hM (fun M hM => ?_)
      rw [if_pos (by rw [sp_rest hP ht hb n]; rfl)]
      unfold f_L_beats_b662
      rw [a1z]
      refine fin M (hM.to (fun j h1 h4 => ?_))
      show r j + (if rho (dP D) b t = (j : Int) then 1 else 0) = r j
      rw [if_neg (by omega), Int.add_zero]
    · rw [if_neg (by rw [q9 (by omega) (by omega)]; exact n)]
      refine dbl_loop hD hb ht (by omega) hM (fun sm oc M hsm hoc hM => ?_)
      refine staff_sums hD hb ht n (fun z => hsm ?_) (fun z => hoc ?_) hM hK
      · obtain ⟨k, k1, k2, k3, k4, k5, k6⟩ := reason_1 hP z
        exact ⟨k, k1, ⟨k2, k3, k4, k5⟩, by omega⟩
      · obtain ⟨_, k, k1, k2, k3, k4, k5, k6⟩ := reason_2 hP z
        exact ⟨k, k1, ⟨k2, k3, k4, k5⟩, k6⟩
  have c579 : ∀ s : Int32, s = (iz (b01 (decide (gC (dP D) t b = 99)))) → ∀ M, B4 M0 D r M → Tot (f_L_beats_b579 (iz (gS (dP D) : Int)) v2 (iz c) v4 v5 (iz st) (iz (b : Int)) (iz (sq (dP D) b : Int)) v11 (iz he) (iz (t : Int)) (iz (sp (dP D) b t)) (iz (rho (dP D) b t)) k31 K s M) Q := fun s hs M hM => by
    unfold f_L_beats_b579
    rw [hs]
    refine stp4 (a_note hD ht hb (w := 3) (by omega) rfl rfl rfl) hM (fun M hM => ?_)
    rw [note_3]
    by_cases x : cutH (dP D) b t = true
    · rw [if_pos (by rw [if_neg (by have := (cu x).2; omega), x]; rfl)]
      exact c599 _ (by rw [x]; rfl) M hM
    · have x : cutH (dP D) b t = false := by simpa using x
      rw [if_neg (by rw [x]; split <;> decide)]
      exact c599 _ (by rw [x]; rfl) M hM
  unfold f_L_beats_b527
  rw [if_neg (by rw [lez (by omega) (by omega)]; omega), if_neg (by decide)]
  refine stp4 (a_cells hD ht hb rfl rfl) hM (fun M hM => ?_)
  refine stp4 (a_note hD ht hb (w := 1) (by omega) rfl rfl rfl) hM (fun M hM => ?_)
  rw [note_1]
  refine stp4 (a_cellw hD ht hb rfl rfl) hM (fun M hM => ?_)
  by_cases ho : gC (dP D) t b = 99
  · rw [if_pos (by rw [ho]; rfl)]
    exact c579 _ (by rw [decide_eq_true ho]; rfl) M hM
  · rw [if_neg (by rw [q99 (by omega) (by omega)]; exact ho)]
    exact c579 _ (by rw [decide_eq_false ho]; rfl) M hM
end BF
