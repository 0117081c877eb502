section MO
variable {M : Mem} {r b : Nat} {P : Pg}
theorem MLs.same {M' : Mem} (h : MLs M P) (e : ∀ d, 36 ≤ d → d ≤ 40 → M' d = M d) : MLs M' P := fun b hb => (h b hb).same e
theorem ix5 (b n : Nat) : (5 : Int32) * iz (b : Int) + iz (n : Int) = iz ((5 * b + n : Nat) : Int) := by
  rw [show (5 : Int32) = iz 5 from rfl, iz_mul, iz_add]; rfl
theorem layAhead_tot (h : PR M r 0 P) (hL : MLs M P) (hP : PgOk P) (hl : lnA r = 72) (hr : r < 36) (hm : gE P 5 = 1) : Tot (f_X6_layAhead r M) (fun x => (∀ b, b < gB P → ∀ k, k ≤ nn P b → x.2 42 (5 * b + k) = iz (ag P b k)) ∧ Off (fun d => d = 42) M x.2) := by
  unfold f_X6_layAhead
  have h2 := hP.1.1.2
  have i7 : inb 7 (lnA r) := by rw [hl]; decide
  have hp : ∀ {M'}, Off (fun d => d = 42) M M' → PR M' r 0 P := fun o => h.same (o r (by omega))
  have hls : ∀ {M'}, Off (fun d => d = 42) M M' → MLs M' P := fun o => hL.same (fun d a c => o d (by omega))
  rw [if_pos i7, c7, h.B, show (1 : Int32) = iz 1 from rfl, iz_sub]
  refine dn2_tot (gB P) (fun i M' => (∀ b, i ≤ b → b < gB P → ∀ k, k ≤ nn P b → M' 42 (5 * b + k) = iz (ag P b k)) ∧ Off (fun d => d = 42) M M') ?_ ?_ 9999 M ⟨fun b a c => by omega, Off.rf⟩ (by omega)
  · intro k7 i M1 hi ⟨hA, ho⟩ hk7
    unfold f_X6_layAhead_b7
    have n4 := mnn4 (hL i hi)
    have lt0 : ¬ (iz (i : Int) < 0) := by rw [show (0 : Int32) = iz ((0 : Nat) : Int) from rfl, ltz (by omega) (by omega)]; omega
    rw [if_neg lt0, show (0 : Int32) = iz ((0 : Nat) : Int) from rfl]
    refine up_tot (nn P i + 1) (fun k M' => (∀ j, j < k → M' 42 (5 * i + j) = iz (ag P i j)) ∧ (∀ b, i + 1 ≤ b → b < gB P → ∀ k, k ≤ nn P b → M' 42 (5 * b + k) = iz (ag P b k)) ∧ Off (fun d => d = 42) M M') ?_ ?_ 9999 0 M1 (by omega) ⟨fun j hj => absurd hj (Nat.not_lt_zero j), hA, ho⟩ (by omega)
    · intro k13 k M2 hk ⟨hj, hA, ho⟩ hk13
      unfold f_X6_layAhead_b13
      have hL2 := hls ho
      have hp2 := hp ho
      have n0 : M2 39 i = iz (nn P i) := (hL2 i hi).2.1.1
      have ii := inb_n (n := i) (N := 16) (by omega) (by omega)
      rw [if_pos ii, cl_n (n := i) (by omega), n0, if_neg (by rw [ltz (by omega) (by omega)]; omega), if_pos i7, c7, hp2.B]
      have eB : (iz (i : Int) = iz (gB P : Int) - 1) = (i + 1 = gB P) := by
        rw [show (1 : Int32) = iz 1 from rfl, iz_sub, iz_eq (by omega) (by omega) (by omega) (by omega)]
        exact propext ⟨fun z => by omega, fun z => by omega⟩
      have fin : ∀ v : Int32, v = iz (ag P i k) → Tot (k13 (iz ((k + 1 : Nat) : Int)) (mw M2 42 (5 * i + k) v)) (fun x => (∀ b, b < gB P → ∀ k, k ≤ nn P b → x.2 42 (5 * b + k) = iz (ag P b k)) ∧ Off (fun d => d = 42) M x.2) := fun v hv => by
        refine hk13 _ ⟨fun j hj' => ?_, fun b a c k' hk' => ?_, ho.put rfl⟩
        · rw [mw_at]
          by_cases e : j = k
          · rw [if_pos (by omega), hv, e]
          · rw [if_neg (by omega)]; exact hj j (by omega)
        · have n4' := mnn4 (hL b c)
          rw [mw_at, if_neg (by omega)]
          exact hA b a c k' hk'
      by_cases cl : i + 1 = gB P
      · rw [if_pos (by rw [eB]; exact cl)]
        unfold f_X6_layAhead_b38 f_X6_layAhead_b59
        rw [if_neg (by decide), if_neg (by decide), ix5, if_pos (inb_n (n := 5 * i + k) (by omega) (by omega)), cl_n (n := 5 * i + k) (by omega), a1z]
        exact fin _ (by rw [ag_last cl]; rfl)
      · rw [if_neg (by rw [eB]; exact cl)]
        unfold f_X6_layAhead_b38
        have hi1 : i + 1 < gB P := by omega
        have hok : okB P (i + 1) k := Or.inr ⟨by omega, by rw [show i + 1 - 1 = i by omega]; omega⟩
        have hse := msel_ok (hL2 (i + 1) hi1) hP.1.2.1 k
        have n5 := mnn4 (hL2 (i + 1) hi1)
        rw [if_pos rfl, a1z, cheapest_eq hp2 hL2 hP hl hi1 hok (Or.inl ⟨rfl, hm, fun j hj => hA (i + 1) (by omega) hi1 j hj⟩), ob_some]
        unfold f_X6_layAhead_b59
        rw [if_pos rfl, a1z, costOf_eq hp2 hL2 hP hl hi1 hse.2.1 hok, ob_some, ix5, if_pos (inb_n (n := 5 * (i + 1) + sel P (i + 1) k) (by omega) (by omega)), ix5, if_pos (inb_n (n := 5 * i + k) (by omega) (by omega)), cl_n (n := 5 * i + k) (by omega), cl_n (n := 5 * (i + 1) + sel P (i + 1) k) (by omega), hA (i + 1) (by omega) hi1 _ hse.2.1, iz_add, a1z]
        exact fin _ (by rw [ag_next hi1 hm])
    · intro k13 M2 ⟨hj, hA, ho⟩
      unfold f_X6_layAhead_b13
      have n0 : M2 39 i = iz (nn P i) := (hls ho i hi).2.1.1
      rw [if_pos (inb_n (n := i) (by omega) (by omega)), cl_n (n := i) (by omega), n0, if_pos (by rw [ltz (by omega) (by omega)]; omega)]
      rw [show iz (i : Int) + -1 = iz ((i : Int) - 1) by rw [show (-1 : Int32) = iz (-1) from rfl, iz_add]; rfl]
      refine hk7 _ ⟨fun b a c k hk => ?_, ho⟩
      by_cases e : b = i
      · rw [e] at hk ⊢; exact hj k (by omega)
      · exact hA b (by omega) c k hk
  · intro k7 M1 ⟨hA, ho⟩
    unfold f_X6_layAhead_b7
    rw [if_pos (by decide)]
    exact Tot.mk ⟨fun b hb k hk => hA b (by omega) hb k hk, ho⟩
theorem lq0_s2 {R : Type} (body : (Mem → Option R) → Mem → Option R) (n : Nat) (M : Mem) : lq0 body (n + 1) M = body (lq0 body n) M := rfl
theorem stage_tot (k7 : Int32 → Mem → Option (Unit × Mem)) (hP : PgW P) (hl : lnA r = 72) (hr : r < 36) (hb : b < gB P) (Q : Unit × Mem → Prop) : ∀ (t N : Nat) (M : Mem), t < N → 1 ≤ t → t ≤ 3 → PR M r 0 P → MB M P b (drp P b t) → MW M P b (drp P b t) → M 40 b = pkm P b (drp P b t) → (∀ t', t < t' → t' ≤ 3 → pkm P b (drp P b t') = 0 ∨ drp P b t' = drp P b t) → (∀ M', ML M' P b → OffB b M M' → Tot (k7 (iz ((b + 1 : Nat) : Int)) M') Q) → Tot (lq0 (f_X6_lay_b33 r (iz b) k7) N M) Q := by
  have h2 := hP.1.2
  have ib := inb_n (n := b) (N := 16) (by omega) (by omega)
  intro t
  induction t using Nat.strongRecOn with
  | ind t ih =>
    intro N M hN h1 h3 hp hB hW h40 hz hk
    match N, hN with
    | N + 1, hN =>
      rw [lq0_s2]
      generalize hK : lq0 (f_X6_lay_b33 r (iz b) k7) N = K
      unfold f_X6_lay_b33
      rw [if_pos ib, cl_n (n := b) (by omega), h40]
      by_cases c : pkm P b (drp P b t) = 0
      · rw [if_pos c]
        refine Tot.ob ((dropInner_tot hp hB hP hl hb (inner_ex hP.2.1 hW.2.2 c)).mono ?_)
        intro ⟨_, M1⟩ ⟨s, hs1, hst, hB1, hd, o1⟩
        have o1 : OffB b M M1 := o1
        have hp1 : PR M1 r 0 P := hp.same (o1.r (by omega))
        refine Tot.ob ((layRow_tot hp1 hB1 (RO_drp P b s) hP hl hr hb).mono ?_)
        intro ⟨_, M2⟩ ⟨hB2, hW2, o2⟩
        have o2 : OffB b M1 M2 := o2
        have hp2 : PR M2 r 0 P := hp1.same (o2.r (by omega))
        refine Tot.ob ((layPossible_tot hp2 hB2 hW2 (RO_drp P b s) hP hl hr hb).mono ?_)
        intro ⟨_, M3⟩ ⟨hB3, hW3, h403, o3⟩
        have o3 : OffB b M2 M3 := o3
        have hp3 : PR M3 r 0 P := hp2.same (o3.r (by omega))
        show Tot (K M3) Q
        rw [← hK]
        refine ih s hst N M3 (by omega) hs1 (by omega) hp3 hB3 hW3 h403 (fun t' a c' => Or.inl ?_) (fun M' a o => hk M' a (((o1.tr o2).tr o3).tr o))
        by_cases e : t' ≤ t
        · rw [hd t' a e]; exact c
        · rcases hz t' (by omega) c' with z | z
          · exact z
          · rw [z]; exact c
      · rw [if_neg c, a1z]
        have e := rho_of h1 h3 hz (Or.inl c)
        rw [e] at hB hW h40
        exact hk M ⟨hB, hW, h40⟩ OffB.rf
/-- the model's music is laid -/
def LD (M : Mem) (P : Pg) : Prop := MLs M P ∧ ∀ b, b < gB P → M 41 b = iz (sq P b)
theorem msq_ok (h : MLs M P) (hP : PgE P) : ∀ b, b < gB P → sq P b ≤ nn P b
  | 0, hb => (msel_ok (h 0 hb) hP 0).2.1
  | b + 1, hb => (msel_ok (h (b + 1) hb) hP (sq P b)).2.1
theorem mbef_ok (h : MLs M P) (hP : PgE P) (hb : b < gB P) : okB P b (bef P b) := by
  unfold bef
  by_cases e : b = 0
  · rw [if_pos e]; exact Or.inl ⟨e, rfl⟩
  · rw [if_neg e]; exact Or.inr ⟨by omega, msq_ok h hP (b - 1) (by omega)⟩
theorem splits_tot (h : PR M r 0 P) (hL : MLs M P) (hP : PgOk P) (hl : lnA r = 72) (hr : r < 36) {w : Int32} (hw : (w = 1 ∧ gE P 5 = 1 ∧ ∀ b, b < gB P → ∀ k, k ≤ nn P b → M 42 (5 * b + k) = iz (ag P b k)) ∨ (w = 0 ∧ gE P 5 ≠ 1)) : Tot (f_X6_lay_b91 r w M) (fun x => LD x.2 P ∧ Off (fun d => d = 41) M x.2) := by
  unfold f_X6_lay_b91
  have h2 := hP.1.1.2
  have i7 : inb 7 (lnA r) := by rw [hl]; decide
  rw [show (0 : Int32) = iz ((0 : Nat) : Int) from rfl]
  refine up_tot (gB P) (fun i M' => (∀ b, b < i → M' 41 b = iz (sq P b)) ∧ Off (fun d => d = 41) M M') ?_ ?_ 9999 0 M (by omega) ⟨fun b hb => absurd hb (Nat.not_lt_zero b), Off.rf⟩ (by omega)
  · intro k93 i M1 hi ⟨hs, ho⟩ hk93
    unfold f_X6_lay_b93
    have hp1 : PR M1 r 0 P := h.same (ho r (by omega))
    have hL1 : MLs M1 P := hL.same (fun d a c => ho d (by omega))
    have hw1 : (w = 1 ∧ gE P 5 = 1 ∧ ∀ k, k ≤ nn P i → M1 42 (5 * i + k) = iz (ag P i k)) ∨ (w = 0 ∧ gE P 5 ≠ 1) := by
      rcases hw with ⟨a, c, d⟩ | z
      · exact Or.inl ⟨a, c, fun k hk => by rw [ho 42 (by omega)]; exact d i hi k hk⟩
      · exact Or.inr z
    have fin : ∀ v : Int32, v = iz (bef P i) → Tot (f_X6_lay_b125 r w (iz i) k93 v (iz i) r (iz i) 41 M1) (fun x => LD x.2 P ∧ Off (fun d => d = 41) M x.2) := fun v hv => by
      subst hv
      unfold f_X6_lay_b125
      rw [cheapest_eq hp1 hL1 hP hl hi (mbef_ok hL1 hP.1.2.1 hi) hw1, ob_some, show lnA 41 = 16 from rfl, if_pos (inb_n (n := i) (by omega) (by omega)), cl_n (n := i) (by omega), a1z]
      refine hk93 _ ⟨fun b hb => ?_, ho.put rfl⟩
      rw [mw_at]
      by_cases e : b = i
      · rw [if_pos e, e, sq_eq]
      · rw [if_neg e]; exact hs b (by omega)
    rw [if_pos i7, c7, hp1.B, if_neg (by rw [lez (by omega) (by omega)]; omega)]
    by_cases e : i = 0
    · rw [if_pos (by rw [e]; rfl)]
      exact fin _ (by unfold bef; rw [if_pos e]; rfl)
    · have e0 : ¬ (iz (i : Int) = 0) := by rw [show (0 : Int32) = iz 0 from rfl, iz_eq (by omega) (by omega) (by omega) (by omega)]; omega
      rw [if_neg e0, show iz (i : Int) - 1 = iz ((i - 1 : Nat) : Int) by
        rw [show (1 : Int32) = iz 1 from rfl, iz_sub]
        congr 1
        omega]
      rw [if_pos (inb_n (n := i - 1) (by omega) (by omega)), cl_n (n := i - 1) (by omega), hs (i - 1) (by omega)]
      exact fin _ (by unfold bef; rw [if_neg e])
  · intro k93 M1 ⟨hs, ho⟩
    unfold f_X6_lay_b93
    have hp1 : PR M1 r 0 P := h.same (ho r (by omega))
    rw [if_pos i7, c7, hp1.B, if_pos (Int32.le_refl _)]
    exact Tot.mk ⟨⟨hL.same (fun d a c => ho d (by omega)), hs⟩, ho⟩
def RLy (d : Nat) : Prop := 36 ≤ d ∧ d ≤ 42
theorem lay_tot (h : PR M r 0 P) (hP : PgOk P) (hl : lnA r = 72) (hr : r < 36) : Tot (f_X6_lay r M) (fun x => LD x.2 P ∧ Off RLy M x.2) := by
  unfold f_X6_lay
  have h1 := hP.1.1.1
  have h2 := hP.1.1.2
  have i7 : inb 7 (lnA r) := by rw [hl]; decide
  have i5 : inb 5 (lnA r) := by rw [hl]; decide
  refine Tot.ob ((laySounds_tot h hP.1 hl (by omega)).mono ?_)
  intro ⟨_, M0⟩ ⟨hs0, o0⟩
  have o0 : Off RLy M M0 := Off.wk o0 (fun d hd => by unfold RLy; omega)
  show Tot (lq1 (f_X6_lay_b7 r) 9999 0 M0) _
  rw [show (0 : Int32) = iz ((0 : Nat) : Int) from rfl]
  refine up_tot (gB P) (fun n M' => (∀ b, b < n → ML M' P b) ∧ M' 36 = M0 36 ∧ Off RLy M M') ?_ ?_ 9999 0 M0 (by omega) ⟨fun b hb => absurd hb (Nat.not_lt_zero b), rfl, o0⟩ (by omega)
  · intro k7 i M1 hi ⟨hJ, h36, ho⟩ hk7
    unfold f_X6_lay_b7
    have hp1 : PR M1 r 0 P := h.same (ho r (by unfold RLy; omega))
    have hs1 : ∀ s, s < gS P → M1 36 (16 * s + i) = iz (sp P i s) := fun s hs => by rw [h36]; exact hs0 s i hs hi
    rw [if_pos i7, c7, hp1.B, if_neg (by rw [lez (by omega) (by omega)]; omega)]
    refine Tot.ob ((layReasons_tot hp1 hs1 hP.1 hl hr hi).mono ?_)
    intro ⟨_, M2⟩ ⟨hB2, o2⟩
    have o2 : OffB i M1 M2 := o2
    have hp2 : PR M2 r 0 P := hp1.same (o2.r (by omega))
    have hB2 : MB M2 P i (drp P i 3) := by rw [drp_top P i (by omega)]; exact hB2
    refine Tot.ob ((layRow_tot hp2 hB2 (RO_drp P i 3) hP.1 hl hr hi).mono ?_)
    intro ⟨_, M3⟩ ⟨hB3, hW3, o3⟩
    have o3 : OffB i M2 M3 := o3
    have hp3 : PR M3 r 0 P := hp2.same (o3.r (by omega))
    refine Tot.ob ((layPossible_tot hp3 hB3 hW3 (RO_drp P i 3) hP.1 hl hr hi).mono ?_)
    intro ⟨_, M4⟩ ⟨hB4, hW4, h404, o4⟩
    have o4 : OffB i M3 M4 := o4
    have hp4 : PR M4 r 0 P := hp3.same (o4.r (by omega))
    have ot := (o2.tr o3).tr o4
    refine stage_tot k7 hP.1 hl hr hi _ 3 9999 M4 (by omega) (by omega) (by omega) hp4 hB4 hW4 h404 (fun t' a c => by omega) (fun M' hML o => ?_)
    have o := ot.tr o
    refine hk7 M' ⟨fun b hb => ?_, (o.r (by omega)).trans h36, ho.tr (fun d hd => o.1 d ?_ ?_ ?_ ?_)⟩
    · by_cases e : b = i
      · rw [e]; exact hML
      · exact (hJ b (by omega)).off o (by omega) e
    all_goals (intro z; exact hd (by unfold RLy; omega))
  · intro k7 M1 ⟨hJ, h36, ho⟩
    unfold f_X6_lay_b7
    have hp1 : PR M1 r 0 P := h.same (ho r (by unfold RLy; omega))
    have e5 := PgE_rng hP.1.2.1 (j := 5) (by omega)
    have eq5 : (iz (gE P 5) = 1) = (gE P 5 = 1) := by rw [show (1 : Int32) = iz 1 from rfl, iz_eq (by omega) (by omega) (by omega) (by omega)]
    rw [if_pos i7, c7, hp1.B, if_pos (Int32.le_refl _)]
    unfold f_X6_lay_b69
    rw [if_pos i5, c5, hp1.E (by omega)]
    by_cases hm : gE P 5 = 1
    · rw [if_pos (by rw [eq5]; exact hm)]
      unfold f_X6_lay_b81
      rw [if_neg (by decide)]
      refine Tot.ob ((layAhead_tot hp1 hJ hP hl hr hm).mono ?_)
      intro ⟨_, M2⟩ ⟨hA, o2⟩
      have o2 : Off (fun d => d = 42) M1 M2 := o2
      refine (splits_tot (M := M2) (hp1.same (o2 r (by omega))) (MLs.same hJ (fun d a c => o2 d (by omega))) hP hl hr (w := 1) (Or.inl ⟨rfl, hm, hA⟩)).mono ?_
      intro x ⟨a, o⟩
      exact ⟨a, (ho.tr (o2.wk (fun d hd => by unfold RLy; omega))).tr (o.wk (fun d hd => by unfold RLy; omega))⟩
    · rw [if_neg (by rw [eq5]; exact hm)]
      unfold f_X6_lay_b81
      rw [if_pos rfl]
      refine (splits_tot hp1 hJ hP hl hr (w := 0) (Or.inr ⟨rfl, hm⟩)).mono ?_
      intro x ⟨a, o⟩
      exact ⟨a, ho.tr (o.wk (fun d hd => by unfold RLy; omega))⟩
end MO
