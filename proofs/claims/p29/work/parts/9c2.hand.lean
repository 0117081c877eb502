/-! BEATS: the loops -/
def B4 (M0 : Mem) (D : Ds) (r : Nat → Int) (M : Mem) : Prop := CRel M D ∧ Off CO M0 M ∧ ∀ j, 1 ≤ j → j < 4 → M 43 j = iz (r j)
theorem stp4 {β : Type} {f : Mem → Option (Int32 × Mem)} {D : Ds} {v : Int32} (a : Ak f D v D) {M0 M : Mem} {r : Nat → Int} (h : B4 M0 D r M) {K : Int32 → Mem → Option β} {Q : β → Prop} (k : ∀ M', B4 M0 D r M' → Tot (K v M') Q) : Tot (ob (f M) K) Q := by
  refine Tot.ob ((a.2 M h.1).mono ?_)
  intro ⟨x, M1⟩ ⟨e, c, o⟩
  have e : x = v := e
  have o : Off CI M M1 := o
  rw [e]
  refine k M1 ⟨c, h.2.1.tr (o.wk (fun d h => Or.inl h)), fun j h1 h4 => ?_⟩
  rw [o 43 (by unfold CI; omega)]
  exact h.2.2 j h1 h4
theorem in_sp {P : Pg} (hP : PgOk P) {b h s : Nat} (hb : b < gB P) (e : nNote P s b 0 = (h : Int)) : s < gS P ∧ (0 ≤ sp P b s ∧ sp P b s ≤ 60) := by
  rw [note_0] at e
  have c : rho P b s ≠ -9 := fun z => by rw [z, if_neg (by decide)] at e; omega
  have hs := rho_ge c
  refine ⟨hs, ?_⟩
  rcases sp_c hP hs hb with z | z
  · exact absurd ((rho_none b s).mpr z) c
  · exact z
theorem HJ.rng {P : Pg} (hP : PgOk P) {b h t : Nat} (hb : b < gB P) {n lo hi : Int} {hd : Bool} (H : HJ P b h t n lo hi hd) : (0 ≤ n ∧ n ≤ t) ∧ (0 ≤ lo ∧ lo ≤ 99) ∧ (-1 ≤ hi ∧ hi ≤ 60) := by
  obtain ⟨h1, h2, h3, h4⟩ := H
  have c := sg01 (f := fun s => if nNote P s b 0 = (h : Int) then (1 : Int) else 0) (n := t) (fun i => by by_cases z : nNote P i b 0 = (h : Int) <;> simp [z])
  rw [← h1] at c
  refine ⟨c, ?_⟩
  rcases h3 with z | ⟨_, ⟨s, a1, a2, a3⟩, s', b1, b2, b3⟩
  · omega
  · have := (in_sp hP hb a2).2
    have := (in_sp hP hb b2).2
    omega
theorem nz_b (x : Bool) : (iz (b01 x) = 0) = (x = false) := by cases x <;> decide
section BE
variable {D : Ds} {M0 : Mem} {r : Nat → Int} {Q : Int32 × Mem → Prop}
variable {k31 : Int32 → Int32 → Int32 → Int32 → Int32 → Int32 → Int32 → Mem → Option (Int32 × Mem)} {k65 : Int32 → Int32 → Int32 → Int32 → Int32 → Int32 → Mem → Option (Int32 × Mem)} {v2 v3 v4 v5 v6 v8 v10 v11 v12 : Int32}
theorem hand_loop (hD : DOk D) {b h : Nat} (hb : b < gB (dP D)) (hh : h < 2) {M : Mem} (hM : B4 M0 D r M)
    (hK : ∀ (n lo hi : Int) (hd : Bool) (M : Mem), HJ (dP D) b h (gS (dP D)) n lo hi hd → B4 M0 D r M → Tot (f_L_beats_b190 (iz (gS (dP D) : Int)) v2 v3 v4 v5 v6 (iz (b : Int)) v10 v11 v12 (iz (h : Int)) (iz n) (iz lo) (iz hi) (iz (b01 hd)) k31 k65 M) Q) : Tot (lq5 (f_L_beats_b92 (iz (gS (dP D) : Int)) v2 v3 v4 v5 v6 (iz (b : Int)) v10 v11 v12 (iz (h : Int)) k31 k65) 5 0 99 (-1) 0 (iz ((0 : Nat) : Int)) M) Q := by
  have hP := hD.2.2.1
  have h1 := hP.1.1.1
  have h2 := hP.1.1.2
  refine up5_tot (gS (dP D)) (fun t n lo hi hd M' => ∃ (n' lo' hi' : Int) (hd' : Bool), n = iz n' ∧ lo = iz lo' ∧ hi = iz hi' ∧ hd = iz (b01 hd') ∧ HJ (dP D) b h t n' lo' hi' hd' ∧ B4 M0 D r M') ?_ ?_ 5 0 0 99 (-1) 0 M (by omega) ⟨0, 99, -1, false, rfl, rfl, rfl, rfl, HJ.zero _ _ _, hM⟩ (by omega)
  · intro K t n lo hi hd M1 ht ⟨n', lo', hi', hd', e1, e2, e3, e4, H, hM⟩ hK2
    subst e1 e2 e3 e4
    have rg := H.rng hP hb
    unfold f_L_beats_b92
    rw [if_neg (by rw [lez (by omega) (by omega)]; omega)]
    refine stp4 (a_note hD ht hb (w := 0) (by omega) rfl rfl rfl) hM (fun M2 hM => ?_)
    have c0 := note0_c (dP D) t b
    by_cases c : nNote (dP D) t b 0 = (h : Int)
    · have hv := (in_sp hP hb c).2
      have Ht := H.take c hv
      rw [if_pos (by rw [c])]
      refine stp4 (a_cells hD ht hb rfl rfl) hM (fun M3 hM => ?_)
      rw [show iz n' + 1 = iz (n' + 1) by rw [show (1 : Int32) = iz 1 from rfl, iz_add]]
      have b156 : Tot (f_L_beats_b156 (iz (gS (dP D) : Int)) v2 v3 v4 v5 v6 (iz (b : Int)) v10 v11 v12 (iz (h : Int)) (iz (n' + 1)) (iz (if sp (dP D) b t < lo' then sp (dP D) b t else lo')) (iz (b01 hd')) (iz (t : Int)) k31 k65 K (iz (if hi' < sp (dP D) b t then sp (dP D) b t else hi')) M3) Q := by
        unfold f_L_beats_b156 f_L_beats_b177
        by_cases d : hd' = true
        · rw [if_neg (by rw [nz_b, d]; decide), a1z]
          refine hK2 _ _ _ _ _ ⟨_, _, _, _, rfl, rfl, rfl, ?_, Ht, hM⟩
          rw [d]; rfl
        · have d : hd' = false := by simpa using d
          rw [if_pos (by rw [nz_b, d])]
          refine stp4 (a_cellw hD ht hb rfl rfl) hM (fun M4 hM => ?_)
          have hc := cOk_lt (hP.1.2.2 t b ht hb)
          by_cases g : gC (dP D) t b = 99
          · rw [if_pos (by rw [g]; rfl), a1z]
            refine hK2 _ _ _ _ _ ⟨_, _, _, _, rfl, rfl, rfl, ?_, Ht, hM⟩
            rw [d, g]; rfl
          · rw [if_neg (by rw [show (99 : Int32) = iz 99 from rfl, iz_eq (by omega) (by omega) (by omega) (by omega)]; exact g), a1z]
            refine hK2 _ _ _ _ _ ⟨_, _, _, _, rfl, rfl, rfl, ?_, Ht, hM⟩
            rw [d, decide_eq_false g]; rfl
      have b140 : Tot (f_L_beats_b140 (iz (gS (dP D) : Int)) v2 v3 v4 v5 v6 (iz (b : Int)) v10 v11 v12 (iz (h : Int)) (iz (n' + 1)) (iz hi') (iz (b01 hd')) (iz (t : Int)) (iz (sp (dP D) b t)) k31 k65 K (iz (if sp (dP D) b t < lo' then sp (dP D) b t else lo')) M3) Q := by
        unfold f_L_beats_b140
        by_cases d : sp (dP D) b t ≤ hi'
        · rw [if_pos (by rw [iz_le (by omega) (by omega) (by omega) (by omega)]; exact d)]
          rw [if_neg (show ¬ hi' < sp (dP D) b t by omega)] at b156
          exact b156
        · rw [if_neg (by rw [iz_le (by omega) (by omega) (by omega) (by omega)]; exact d)]
          rw [if_pos (show hi' < sp (dP D) b t by omega)] at b156
          exact b156
      by_cases d : lo' ≤ sp (dP D) b t
      · rw [if_pos (by rw [iz_le (by omega) (by omega) (by omega) (by omega)]; exact d)]
        rw [if_neg (show ¬ sp (dP D) b t < lo' by omega)] at b140
        exact b140
      · rw [if_neg (by rw [iz_le (by omega) (by omega) (by omega) (by omega)]; exact d)]
        rw [if_pos (show sp (dP D) b t < lo' by omega)] at b140
        exact b140
    · rw [if_neg (by rw [iz_eq (by omega) (by omega) (by omega) (by omega)]; exact c), a1z]
      exact hK2 _ _ _ _ _ ⟨_, _, _, _, rfl, rfl, rfl, rfl, H.skip c, hM⟩
  · intro K n lo hi hd M1 ⟨n', lo', hi', hd', e1, e2, e3, e4, H, hM⟩
    subst e1 e2 e3 e4
    unfold f_L_beats_b92
    rw [if_pos (Int32.le_refl _)]
    exact hK _ _ _ _ _ H hM
theorem hand_rest (hD : DOk D) {b h : Nat} (hb : b < gB (dP D)) (hh : h < 2) {n lo hi : Int} {hd : Bool} (H : HJ (dP D) b h (gS (dP D)) n lo hi hd) {M : Mem} (hM : B4 M0 D r M)
    (hK : ∀ M, B4 M0 D r M → Tot (k65 (v4 + iz (if ro (dP D) b h (sq (dP D) b) then (1 : Int) else 0)) (v5 + iz (mv (dP D) b (bef (dP D) b) h (sq (dP D) b))) 1 (v11 + iz (nK (dP D) b h)) (v12 + iz (5 * (if ro (dP D) b h (sq (dP D) b) then (1 : Int) else 0) + (mv (dP D) b (bef (dP D) b) h (sq (dP D) b)))) (iz ((h + 1 : Nat) : Int)) M) Q) : Tot (f_L_beats_b190 (iz (gS (dP D) : Int)) v2 v3 v4 v5 v6 (iz (b : Int)) (iz (sq (dP D) b : Int)) v11 v12 (iz (h : Int)) (iz n) (iz lo) (iz hi) (iz (b01 hd)) k31 k65 M) Q := by
  have hP := hD.2.2.1
  have h1 := hP.1.1.1
  have h2 := hP.1.1.2
  have hq := sq_in hP hb
  have hE := hP.1.2.1
  have rg := H.rng hP hb
  obtain ⟨en, a0, a1, a2⟩ := H.all hP hb hh
  have ca := can_K hP hb hh
  have rE := PgE_rng hE (j := h) (by omega)
  have rE2 := PgE_rng hE (j := 2) (by omega)
  have rE3 := PgE_rng hE (j := 3) (by omega)
  have mr := mv_rng hP.1 hb (bef (dP D) b) h (sq (dP D) b)
  have pr := ps_rng hP.1 hb h (sq (dP D) b)
  have n4 := nn_4 hP hb
  have lh : n ≠ 0 → lo ≤ hi := fun z => by
    rcases H.2.2.1 with y | ⟨_, ⟨s, a1, a2, a3⟩, _⟩
    · exact absurd y.1 z
    · have := H.2.1 s a1 a2
      omega
  have wr : 0 ≤ (wd (dP D) b h (sq (dP D) b)) ∧ (wd (dP D) b h (sq (dP D) b)) ≤ 69 := by
    by_cases z : n = 0
    · rw [(a0 z).2]; omega
    · have := a1 z
      have := lh z
      omega
  have rr : (if ro (dP D) b h (sq (dP D) b) then (1 : Int) else 0) = 0 ∨ (if ro (dP D) b h (sq (dP D) b) then (1 : Int) else 0) = 1 := by
    by_cases z : ro (dP D) b h (sq (dP D) b)
    · rw [if_pos z]; exact Or.inr rfl
    · rw [if_neg z]; exact Or.inl rfl
  obtain ⟨rl, erl⟩ : ∃ x, x = (if ro (dP D) b h (sq (dP D) b) then (1 : Int) else 0) := ⟨_, rfl⟩
  rw [← erl] at hK rr
  -- the sums
  have b431 : ∀ M, B4 M0 D r M → Tot (f_L_beats_b431 (iz (gS (dP D) : Int)) v2 v3 v4 v5 v6 (iz (b : Int)) (iz (sq (dP D) b : Int)) v11 v12 (iz (h : Int)) (iz n) (iz rl) (iz (mv (dP D) b (bef (dP D) b) h (sq (dP D) b))) k31 k65 1 M) Q := fun M hM => by
    unfold f_L_beats_b431
    rw [show (5 : Int32) = iz 5 from rfl, iz_mul, iz_add, a1z, en]
    exact hK M hM
  -- rolled, moved
  have b394 : ∀ g : Int, g = (if hd = true then 0 else gE (dP D) 3) → ∀ M, B4 M0 D r M → Tot (f_L_beats_b394 (iz (gS (dP D) : Int)) v2 v3 v4 v5 v6 (iz (b : Int)) (iz (sq (dP D) b : Int)) v11 v12 (iz (h : Int)) (iz n) (iz rl) (iz (mv (dP D) b (bef (dP D) b) h (sq (dP D) b))) k31 k65 (iz g) (iz (gE (dP D) h)) (iz (wd (dP D) b h (sq (dP D) b))) M) Q := fun g hg M hM => by
    have g9 : 0 ≤ g ∧ g ≤ 24 := by rw [hg]; split <;> omega
    have le : (wd (dP D) b h (sq (dP D) b)) ≤ gE (dP D) h + g := by
      have c := ca.2
      rw [hg]
      by_cases z : hd = true
      · rw [if_pos z]; rw [if_pos (a2.mp z)] at c; exact c
      · rw [if_neg z]; rw [if_neg (fun y => z (a2.mpr y))] at c; exact c
    unfold f_L_beats_b394
    rw [iz_add, if_neg (by rw [iz_lt (by omega) (by omega) (by omega) (by omega)]; omega)]
    refine stp4 (a_hand hD hh hb (w := 3) (by omega) rfl rfl rfl) hM (fun M hM => ?_)
    rw [show nHand (dP D) h b 3 = (if ro (dP D) b h (sq (dP D) b) then (1 : Int) else 0) from rfl, ← erl, if_pos rfl]
    refine stp4 (a_hand hD hh hb (w := 4) (by omega) rfl rfl rfl) hM (fun M hM => ?_)
    rw [show nHand (dP D) h b 4 = (mv (dP D) b (bef (dP D) b) h (sq (dP D) b)) from rfl, if_pos rfl]
    exact b431 M hM
  have b345 : ∀ s : Int32, s = iz (ps (dP D) b h (sq (dP D) b)) → ∀ M, B4 M0 D r M → Tot (f_L_beats_b345 (iz (gS (dP D) : Int)) v2 v3 v4 v5 v6 (iz (b : Int)) (iz (sq (dP D) b : Int)) v11 v12 (iz (h : Int)) (iz n) (iz (b01 hd)) (iz (wd (dP D) b h (sq (dP D) b))) (iz rl) (iz (mv (dP D) b (bef (dP D) b) h (sq (dP D) b))) k31 k65 s (iz (ps (dP D) b h (sq (dP D) b))) M) Q := fun s hs M hM => by
    unfold f_L_beats_b345
    rw [hs, if_pos rfl]
    refine stp4 (a_hand hD hh hb (w := 2) (by omega) rfl rfl rfl) hM (fun M hM => ?_)
    rw [show nHand (dP D) h b 2 = (wd (dP D) b h (sq (dP D) b)) from rfl, if_pos rfl]
    refine stp4 (a_E hD (j := 2) (by omega) rfl) hM (fun M hM => ?_)
    rw [if_neg (by rw [iz_lt (by omega) (by omega) (by omega) (by omega)]; omega)]
    refine stp4 (a_E hD (j := h) (by omega) rfl) hM (fun M hM => ?_)
    by_cases z : hd = true
    · rw [if_neg (by rw [nz_b, z]; decide)]
      exact b394 0 (by rw [if_pos z]) M hM
    · rw [if_pos (by rw [nz_b]; simpa using z)]
      refine stp4 (a_E hD (j := 3) (by omega) rfl) hM (fun M hM => ?_)
      exact b394 _ (by rw [if_neg z]) M hM
  have b321 : ∀ s : Int32, s = iz n → ∀ M, B4 M0 D r M → Tot (f_L_beats_b321 (iz (gS (dP D) : Int)) v2 v3 v4 v5 v6 (iz (b : Int)) (iz (sq (dP D) b : Int)) v11 v12 (iz (h : Int)) (iz n) (iz lo) (iz (b01 hd)) (iz (wd (dP D) b h (sq (dP D) b))) (iz rl) (iz (mv (dP D) b (bef (dP D) b) h (sq (dP D) b))) k31 k65 s (iz n) M) Q := fun s hs M hM => by
    unfold f_L_beats_b321
    rw [hs, if_pos rfl]
    refine stp4 (a_hand hD hh hb (w := 1) (by omega) rfl rfl rfl) hM (fun M hM => ?_)
    rw [show nHand (dP D) h b 1 = ps (dP D) b h (sq (dP D) b) from rfl]
    by_cases z : n = 0
    · rw [if_pos (by rw [z]; rfl)]
      exact b345 _ (by rw [(a0 z).1]; rfl) M hM
    · rw [if_neg (by rw [show (0 : Int32) = iz 0 from rfl, iz_eq (by omega) (by omega) (by omega) (by omega)]; exact z)]
      exact b345 _ (by rw [(a1 z).1]) M hM
  have b283 : ∀ s : Int32, s = iz (mv (dP D) b (bef (dP D) b) h (sq (dP D) b)) → ∀ M, B4 M0 D r M → Tot (f_L_beats_b283 (iz (gS (dP D) : Int)) v2 v3 v4 v5 v6 (iz (b : Int)) (iz (sq (dP D) b : Int)) v11 v12 (iz (h : Int)) (iz n) (iz lo) (iz (b01 hd)) (iz (wd (dP D) b h (sq (dP D) b))) (iz rl) k31 k65 s M) Q := fun s hs M hM => by
    unfold f_L_beats_b283
    rw [hs]
    refine stp4 (a_hand hD hh hb (w := 0) (by omega) rfl rfl rfl) hM (fun M hM => ?_)
    have e0 : nHand (dP D) h b 0 = nK (dP D) b h := rfl
    rw [e0, ← en, if_pos rfl]
    by_cases z : h = 0
    · rw [if_pos (by rw [z]; rfl)]
      refine b321 _ ?_ M hM
      rw [en]
      unfold nK
      rw [if_pos z]
    · rw [if_neg (by rw [show (0 : Int32) = iz 0 from rfl, iz_eq (by omega) (by omega) (by omega) (by omega)]; omega)]
      refine stp4 (a_beat hD hb (w := 3) (by omega) rfl rfl) hM (fun M hM => ?_)
      rw [show nBeat (dP D) b 3 = iz (nn (dP D) b : Int) from rfl, iz_sub]
      refine b321 _ ?_ M hM
      rw [en]
      unfold nK
      rw [if_neg z]
  -- the move
  have b245 : ∀ s : Int32, s = iz (psB (dP D) b h (bef (dP D) b)) → ∀ M, B4 M0 D r M → Tot (f_L_beats_b245 (iz (gS (dP D) : Int)) v2 v3 v4 v5 v6 (iz (b : Int)) (iz (sq (dP D) b : Int)) v11 v12 (iz (h : Int)) (iz n) (iz lo) (iz (b01 hd)) (iz (wd (dP D) b h (sq (dP D) b))) (iz rl) k31 k65 s M) Q := fun s hs M hM => by
    have qr := psB_rng hP.1 hb h (bef (dP D) b)
    unfold f_L_beats_b245 f_L_beats_b259
    rw [hs]
    by_cases z : n = 0
    · rw [if_pos (by rw [z]; rfl)]
      refine b283 _ ?_ M hM
      unfold mv
      rw [(a0 z).1]
      by_cases y : psB (dP D) b h (bef (dP D) b) = -9
      · rw [if_pos y]; rfl
      · rw [if_neg y, if_pos rfl]; rfl
    · have l := a1 z
      rw [if_neg (by rw [show (0 : Int32) = iz 0 from rfl, iz_eq (by omega) (by omega) (by omega) (by omega)]; exact z)]
      by_cases y : psB (dP D) b h (bef (dP D) b) = -9
      · rw [if_pos (by rw [y]; rfl)]
        refine b283 _ ?_ M hM
        unfold mv
        rw [if_pos y]; rfl
      · rw [if_neg (by rw [show (-9 : Int32) = iz (-9) from rfl, iz_eq (by omega) (by omega) (by omega) (by omega)]; exact y)]
        by_cases x : lo ≤ psB (dP D) b h (bef (dP D) b)
        · rw [if_pos (by rw [iz_le (by omega) (by omega) (by omega) (by omega)]; exact x), iz_sub]
          refine b283 _ ?_ M hM
          unfold mv
          rw [if_neg y, if_neg (by omega), if_pos (by omega), l.1]
        · rw [if_neg (by rw [iz_le (by omega) (by omega) (by omega) (by omega)]; exact x), iz_sub]
          refine b283 _ ?_ M hM
          unfold mv
          rw [if_neg y, if_neg (by omega), if_neg (by omega), l.1]
  have b222 : ∀ s : Int32, s = iz rl → ∀ M, B4 M0 D r M → Tot (f_L_beats_b222 (iz (gS (dP D) : Int)) v2 v3 v4 v5 v6 (iz (b : Int)) (iz (sq (dP D) b : Int)) v11 v12 (iz (h : Int)) (iz n) (iz lo) (iz (b01 hd)) (iz (wd (dP D) b h (sq (dP D) b))) k31 k65 s M) Q := fun s hs M hM => by
    unfold f_L_beats_b222
    rw [hs]
    by_cases z : b = 0
    · rw [if_pos (by rw [z]; rfl)]
      refine b245 _ ?_ M hM
      unfold psB
      rw [if_pos z]; rfl
    · rw [if_neg (by rw [show (0 : Int32) = iz 0 from rfl, iz_eq (by omega) (by omega) (by omega) (by omega)]; omega), show iz (b : Int) - 1 = iz ((b - 1 : Nat) : Int) from pm1 b (by omega)]
      refine stp4 (a_hand hD hh (b := b - 1) (by omega) (w := 1) (by omega) rfl rfl rfl) hM (fun M hM => ?_)
      refine b245 _ ?_ M hM
      show iz (ps (dP D) (b - 1) h (sq (dP D) (b - 1))) = _
      unfold psB bef
      rw [if_neg z, if_neg z]
  have b204 : ∀ s : Int32, s = iz (wd (dP D) b h (sq (dP D) b)) → ∀ M, B4 M0 D r M → Tot (f_L_beats_b204 (iz (gS (dP D) : Int)) v2 v3 v4 v5 v6 (iz (b : Int)) (iz (sq (dP D) b : Int)) v11 v12 (iz (h : Int)) (iz n) (iz lo) (iz (b01 hd)) k31 k65 s M) Q := fun s hs M hM => by
    unfold f_L_beats_b204
    rw [hs]
    refine stp4 (a_E hD (j := h) (by omega) rfl) hM (fun M hM => ?_)
    by_cases z : ro (dP D) b h (sq (dP D) b)
    · rw [if_neg (by rw [iz_le (by omega) (by omega) (by omega) (by omega)]; omega)]
      refine b222 _ ?_ M hM
      rw [erl, if_pos z]; rfl
    · rw [if_pos (by rw [iz_le (by omega) (by omega) (by omega) (by omega)]; omega)]
      refine b222 _ ?_ M hM
      rw [erl, if_neg z]; rfl
  unfold f_L_beats_b190
  by_cases z : n = 0
  · rw [if_pos (by rw [z]; rfl)]
    refine b204 _ ?_ M hM
    rw [(a0 z).2]; rfl
  · rw [if_neg (by rw [show (0 : Int32) = iz 0 from rfl, iz_eq (by omega) (by omega) (by omega) (by omega)]; exact z), iz_sub]
    refine b204 _ ?_ M hM
    rw [(a1 z).2.1]
end BE
