/-! WHAT BOTH HOLD: text, music, history, slots -/
abbrev Ds : Type := (Nat × (Nat → Int)) × Pg × (Nat × (Nat → Pg)) × ((Nat → Bool) × (Nat → Pg))
abbrev dN (D : Ds) : Nat := D.1.1
abbrev dT (D : Ds) : Nat → Int := D.1.2
abbrev dP (D : Ds) : Pg := D.2.1
abbrev dH (D : Ds) : Nat := D.2.2.1.1
abbrev dQ (D : Ds) : Nat → Pg := D.2.2.1.2
abbrev dF (D : Ds) : Nat → Bool := D.2.2.2.1
abbrev dS (D : Ds) : Nat → Pg := D.2.2.2.2
def DOk (D : Ds) : Prop := dN D ≤ 140 ∧ (∀ i, i < dN D → 0 ≤ dT D i ∧ dT D i ≤ 255) ∧ PgOk (dP D) ∧ dH D ≤ 14 ∧ (∀ j, j < dH D → PgOk (dQ D j)) ∧ ∀ s, s < 2 → dF D s = true → PgOk (dS D s)
def CRel (M : Mem) (D : Ds) : Prop :=
  (M 1 1 = iz (dN D) ∧ ∀ i, i < dN D → M 2 i = iz (dT D i)) ∧ StRep M 0 (dP D) ∧
  (∃ nx : Nat, nx < 14 ∧ M 3 1 = iz nx ∧ M 3 2 = iz (dH D) ∧ ∀ j, j < dH D → StRep M (4 + (nx + 14 - dH D + j) % 14) (dQ D j)) ∧
  (∀ s, s < 2 → M 6 s = iz (b01 (dF D s)) ∧ (dF D s = true → StRep M (2 + s) (dS D s))) ∧ RZ M
def MRel (M : Mem) (D : Ds) : Prop :=
  (M 27 2 = iz (dN D) ∧ ∀ i, i < dN D → M 28 i = iz (dT D i)) ∧ PR M 30 0 (dP D) ∧
  (M 27 9 = iz (dH D) ∧ ∀ j, j < dH D → PR M 33 (72 * j) (dQ D j)) ∧
  ∀ s, s < 2 → M 35 s = iz (b01 (dF D s)) ∧ (dF D s = true → PR M 34 (72 * s) (dS D s))
def CI (d : Nat) : Prop := d < 27 ∨ 44 ≤ d
def MI (d : Nat) : Prop := 27 ≤ d ∧ d < 43
theorem iSt_eq (k : Nat) : iSt k = 44 + 3 * k := rfl
theorem StRep.same {M M' : Mem} {k : Nat} {P : Pg} (h : StRep M k P) (e : ∀ d, iSt k ≤ d → d < iSt k + 3 → M' d = M d) : StRep M' k P := by
  unfold StRep
  rw [e (iSt k) (by omega) (by omega), e (iSt k + 1) (by omega) (by omega), e (iSt k + 2) (by omega) (by omega)]
  exact h
theorem RZ.same {M M' : Mem} (h : RZ M) (e : ∀ d, 98 ≤ d → d < 302 → M' d = M d) : RZ M' :=
  ⟨fun c hc => by rw [e _ (by have := iCh_eq c; omega) (by have := iCh_eq c; omega)]; exact h.1 c hc, h.2.same (fun d hd => e d (by have := hd.1; have := iCh_eq 16; omega) (by have := hd.2; have := iCh_eq 16; omega))⟩
/-- what a class's call may use for itself: the trial, the chords -/
def CT (d : Nat) : Prop := RSt 1 d ∨ RRd d
theorem CRel.tmp {M M' : Mem} {D : Ds} (h : CRel M D) (o : Off CT M M') (hz : RZ M') : CRel M' D := by
  have ne : ∀ d, (d < 7 ∨ (44 ≤ d ∧ d < 47) ∨ (50 ≤ d ∧ d < 98)) → M' d = M d := fun d hd => o d (by
    intro z
    unfold CT RSt RRd at z
    have := iSt_eq 1
    omega)
  obtain ⟨⟨a1, a2⟩, b, ⟨nx, c1, c2, c3, c4⟩, d, e⟩ := h
  refine ⟨⟨by rw [ne 1 (by omega)]; exact a1, fun i hi => by rw [ne 2 (by omega)]; exact a2 i hi⟩, b.same (fun d h1 h2 => ne d (by have := iSt_eq 0; omega)), ⟨nx, c1, by rw [ne 3 (by omega)]; exact c2, by rw [ne 3 (by omega)]; exact c3, fun j hj => (c4 j hj).same (fun d h1 h2 => ne d (by have := iSt_eq (4 + (nx + 14 - dH D + j) % 14); omega))⟩, fun s hs => ⟨by rw [ne 6 (by omega)]; exact (d s hs).1, fun hf => ((d s hs).2 hf).same (fun d h1 h2 => ne d (by have := iSt_eq (2 + s); omega))⟩, hz⟩
theorem CRel.gen {M M' : Mem} {D : Ds} (h : CRel M D) (ne : ∀ d, (d < 7 ∨ (44 ≤ d ∧ d < 47) ∨ (50 ≤ d ∧ d < 98)) → M' d = M d) (hz : RZ M') : CRel M' D := by
  obtain ⟨⟨a1, a2⟩, b, ⟨nx, c1, c2, c3, c4⟩, d, e⟩ := h
  refine ⟨⟨by rw [ne 1 (by omega)]; exact a1, fun i hi => by rw [ne 2 (by omega)]; exact a2 i hi⟩, b.same (fun d h1 h2 => ne d (by have := iSt_eq 0; omega)), ⟨nx, c1, by rw [ne 3 (by omega)]; exact c2, by rw [ne 3 (by omega)]; exact c3, fun j hj => (c4 j hj).same (fun d h1 h2 => ne d (by have := iSt_eq (4 + (nx + 14 - dH D + j) % 14); omega))⟩, fun s hs => ⟨by rw [ne 6 (by omega)]; exact (d s hs).1, fun hf => ((d s hs).2 hf).same (fun d h1 h2 => ne d (by have := iSt_eq (2 + s); omega))⟩, hz⟩
theorem CRel.off {M M' : Mem} {D : Ds} (h : CRel M D) (o : Off MI M M') : CRel M' D :=
  h.gen (fun d hd => o d (by unfold MI; omega)) (h.2.2.2.2.same (fun d h1 h2 => o d (by unfold MI; omega)))
/-- what a model's call may use for itself -/
def MT (d : Nat) : Prop := d = 29 ∨ d = 31 ∨ d = 32 ∨ (36 ≤ d ∧ d < 43)
theorem MRel.gen {M M' : Mem} {D : Ds} (h : MRel M D) (e2 : M' 27 2 = M 27 2) (e9 : M' 27 9 = M 27 9) (ne : ∀ d, (d = 28 ∨ d = 30 ∨ (33 ≤ d ∧ d < 36)) → M' d = M d) : MRel M' D := by
  obtain ⟨⟨a1, a2⟩, b, ⟨c1, c2⟩, d⟩ := h
  exact ⟨⟨by rw [e2]; exact a1, fun i hi => by rw [ne 28 (by omega)]; exact a2 i hi⟩, b.same (ne 30 (by omega)), ⟨by rw [e9]; exact c1, fun j hj => (c2 j hj).same (ne 33 (by omega))⟩, fun s hs => ⟨by rw [ne 35 (by omega)]; exact (d s hs).1, fun hf => ((d s hs).2 hf).same (ne 34 (by omega))⟩⟩
theorem MRel.off {M M' : Mem} {D : Ds} (h : MRel M D) (o : Off CI M M') : MRel M' D :=
  h.gen (by rw [o 27 (by unfold CI; omega)]) (by rw [o 27 (by unfold CI; omega)]) (fun d hd => o d (by unfold CI; omega))
theorem MRel.tmp {M M' : Mem} {D : Ds} (h : MRel M D) (o : Off MT M M') : MRel M' D :=
  h.gen (by rw [o 27 (by unfold MT; omega)]) (by rw [o 27 (by unfold MT; omega)]) (fun d hd => o d (by unfold MT; omega))
theorem MRel.put {M : Mem} {D : Ds} (h : MRel M D) {j : Nat} {v : Int32} (hj : j = 0 ∨ j = 3) : MRel (mw M 27 j v) D :=
  h.gen (by rw [mw_at, if_neg (by omega)]) (by rw [mw_at, if_neg (by omega)]) (fun d hd => mw_ne (by omega))
theorem lgc_lt {a b : Int} (a1 : -2147483648 ≤ a) (a2 : a < 2147483648) (b1 : -2147483648 ≤ b) (b2 : b < 2147483648) : (lg_cmp (Int32.toInt64 (iz a)) (Int32.toInt64 (iz b)) < 0) = (a < b) := by
  refine propext ((lg_cmp_lt _ _).trans ?_)
  rw [Int64.lt_iff_toInt_lt, Int32.toInt_toInt64, Int32.toInt_toInt64, iz_toInt a1 a2, iz_toInt b1 b2]
theorem lgc_gt {a b : Int} (a1 : -2147483648 ≤ a) (a2 : a < 2147483648) (b1 : -2147483648 ≤ b) (b2 : b < 2147483648) : (0 < lg_cmp (Int32.toInt64 (iz a)) (Int32.toInt64 (iz b))) = (b < a) := by
  refine propext ((lg_cmp_gt _ _).trans ?_)
  rw [Int64.lt_iff_toInt_lt, Int32.toInt_toInt64, Int32.toInt_toInt64, iz_toInt a1 a2, iz_toInt b1 b2]
theorem lgc_self (x : Int32) : lg_cmp (Int32.toInt64 x) (Int32.toInt64 x) = 0 := by
  unfold lg_cmp
  rw [if_neg (show ¬ (x.toInt64 > x.toInt64) from fun h => Int64.lt_irrefl h), if_pos rfl]
theorem in_eq {v lo hi : Int} (M : Mem) (v1 : -2147483648 ≤ v) (v2 : v < 2147483648) (l1 : -2147483648 ≤ lo) (l2 : lo < 2147483648) (h1 : -2147483648 ≤ hi) (h2 : hi < 2147483648) : f_X6_in (Int32.toInt64 (iz v)) (Int32.toInt64 (iz lo)) (Int32.toInt64 (iz hi)) M = some (bz (lo ≤ v ∧ v ≤ hi), M) := by
  unfold f_X6_in
  have e1 := lgc_lt v1 v2 l1 l2
  have e2 := lgc_gt v1 v2 h1 h2
  by_cases c : v < lo
  · rw [if_pos (by rw [e1]; exact c), bz_f (by omega)]; rfl
  · rw [if_neg (by rw [e1]; exact c)]
    by_cases d : hi < v
    · rw [if_pos (by rw [e2]; exact d), bz_f (by omega)]; rfl
    · rw [if_neg (by rw [e2]; exact d), bz_t (by omega)]; rfl
theorem izself (x : Int32) : ∃ v : Int, x = iz v ∧ -2147483648 ≤ v ∧ v < 2147483648 := ⟨x.toInt, (iz_self x).symm, (iz_rng x).1, (iz_rng x).2⟩
theorem refused_eq {n : Nat} (hn : n < 100) (M : Mem) : f_X6_refused (iz n) M = some (bz (0 < n), mw M 27 0 (iz n)) := by
  unfold f_X6_refused
  have e : (iz (n : Int) ≤ 0) = (n ≤ 0) := by rw [show (0 : Int32) = iz ((0 : Nat) : Int) from rfl, lez (by omega) (by omega)]
  by_cases c : n ≤ 0
  · rw [if_pos (by rw [e]; exact c), bz_f (by omega)]; rfl
  · rw [if_neg (by rw [e]; exact c), bz_t (by omega)]; rfl
/-- a page is copied -/
theorem copyPage_tot {M : Mem} {r q a c : Nat} (hr : a + 72 ≤ lnA r) (hq : c + 72 ≤ lnA q) (hl : lnA r ≤ 2000) (hl2 : lnA q ≤ 2000) (hrq : r ≠ q) : Tot (f_X6_copyPage r (iz a) q (iz c) M) (fun x => (∀ k, k < 72 → x.2 q (c + k) = M r (a + k)) ∧ (∀ j, (j < c ∨ c + 72 ≤ j) → x.2 q j = M q j) ∧ Off (fun d => d = q) M x.2) := by
  unfold f_X6_copyPage
  rw [show (0 : Int32) = iz ((0 : Nat) : Int) from rfl]
  refine up_tot 72 (fun k M' => (∀ j, j < k → M' q (c + j) = M r (a + j)) ∧ (∀ j, (j < c ∨ c + 72 ≤ j) → M' q j = M q j) ∧ Off (fun d => d = q) M M') ?_ ?_ 9999 0 M (by omega) ⟨fun j hj => absurd hj (Nat.not_lt_zero j), fun _ _ => rfl, Off.rf⟩ (by omega)
  · intro K k M' hk ⟨h1, h2, h3⟩ hK
    unfold f_X6_copyPage_b3
    have l : ¬ ((72 : Int32) ≤ iz (k : Int)) := by rw [show (72 : Int32) = iz ((72 : Nat) : Int) from rfl, lez (by omega) (by omega)]; omega
    have s : ∀ x y : Nat, iz (x : Int) + iz (y : Int) = iz ((x + y : Nat) : Int) := fun x y => by rw [iz_add]; rfl
    rw [if_neg l, s, s, if_pos (inb_n (n := a + k) (by omega) (by omega)), if_pos (inb_n (n := c + k) (by omega) (by omega)), cl_n (n := a + k) (by omega), cl_n (n := c + k) (by omega), a1z, h3 r hrq]
    refine hK _ ⟨fun j hj => ?_, fun j hj => ?_, h3.put rfl⟩
    · rw [mw_at]
      by_cases e : j = k
      · rw [if_pos (by omega), e]
      · rw [if_neg (by omega)]; exact h1 j (by omega)
    · rw [mw_at, if_neg (by omega)]; exact h2 j hj
  · intro K M' ⟨h1, h2, h3⟩
    unfold f_X6_copyPage_b3
    rw [if_pos (by decide)]
    exact Tot.mk ⟨h1, h2, h3⟩
theorem PR.copy {M M' : Mem} {r q a c : Nat} {P : Pg} (h : PR M r a P) (hP : PgD P) (e : ∀ k, k < 72 → M' q (c + k) = M r (a + k)) : PR M' q c P :=
  ⟨fun j hj => by rw [e j (by omega)]; exact h.1 j hj, by rw [e 6 (by omega)]; exact h.2.1, by rw [e 7 (by omega)]; exact h.2.2.1, fun s b hs hb => by rw [e _ (by have := pg_lt hP hs hb; omega)]; exact h.2.2.2 s b hs hb⟩
/-- both answer alike -/
def Agree (h : Nat → Option Int32) (fc : Mem → Option (Except Nat Int32 × Mem)) (fm : Mem → Option (Int32 × Mem)) (D : Ds) : Prop :=
  ∃ (D' : Ds) (code : Int32) (val : Int32), DOk D' ∧
    (∀ M, CRel M D → Tot (wrp h (fc M)) (fun x => x.1 = code ∧ (code = 0 → x.2 43 0 = val) ∧ CRel x.2 D' ∧ Off (fun d => CI d ∨ d = 43) M x.2)) ∧
    ∀ M, MRel M D → Tot (fm M) (fun x => (code = 0 → x.1 = val) ∧ x.2 27 0 = code ∧ MRel x.2 D' ∧ Off MI M x.2)
theorem wrp_ok {h : Nat → Option Int32} {v : Int32} {M : Mem} : wrp h (some (.ok v, M)) = some (0, mw M 43 0 v) := rfl
theorem CRel.out {M : Mem} {D : Ds} (h : CRel M D) (v : Int32) : CRel (mw M 43 0 v) D :=
  h.gen (fun d hd => mw_ne (by omega)) (h.2.2.2.2.same (fun d h1 h2 => mw_ne (by omega)))
