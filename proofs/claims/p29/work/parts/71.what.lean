/-! THE TRIALS -/
theorem CI_CT (d : Nat) (h : CT d) : CI d := by
  unfold CT RSt RRd at h
  have := iSt_eq 1
  unfold CI
  omega
theorem c_take {M : Mem} {D : Ds} (h : CRel M D) (hD : DOk D) : Tot (f_X3_takeFrom 1 0 M) (fun x => StRep x.2 1 (dP D) ∧ CRel x.2 D ∧ Off CT M x.2) := by
  have i1 := iSt_eq 1
  refine (take_rep (q := 1) (r := 0) (by omega) h.2.1 hD.2.2.1.1.1).mono ?_
  intro x ⟨a, o⟩
  exact ⟨a, h.tmp (o.wk (fun d hd => Or.inl hd)) (h.2.2.2.2.same (fun d h1 h2 => o d (by unfold RSt; omega))), o.wk (fun d hd => Or.inl hd)⟩
theorem c_trial {M : Mem} {D : Ds} {P : Pg} (h : CRel M D) (st : StRep M 1 P) (hP : PgW P) : Tot (f_X2_make 1 M) (fun x => RD x.2 P ∧ StRep x.2 1 P ∧ CRel x.2 D ∧ Off CT M x.2) := by
  have i1 := iSt_eq 1
  refine (make_tot st hP h.2.2.2.2 (by omega) (by omega)).mono ?_
  intro x ⟨a, b, c⟩
  exact ⟨a, st.same (fun d x y => c d (by unfold RRd; omega)), h.tmp (c.wk (fun d hd => Or.inr hd)) b, c.wk (fun d hd => Or.inr hd)⟩
theorem c_num {M : Mem} {D : Ds} {P : Pg} (h : CRel M D) (st : StRep M 1 P) (hP : PgW P) {w : Nat} (hw : w < 8) : Tot (f_X5_numberOfTrial (iz w) M) (fun x => x.1 = iz (nWhole P w) ∧ StRep x.2 1 P ∧ CRel x.2 D ∧ Off CT M x.2) := by
  unfold f_X5_numberOfTrial
  refine Tot.ob ((c_trial h st hP).mono ?_)
  intro ⟨_, M2⟩ ⟨a, b, c, d⟩
  have a : RD M2 P := a
  show Tot (ob (f_X2_numberOfWhole (iz (w : Int)) M2) _) _
  rw [numberOfWhole_eq a hP hw, ob_some]
  exact Tot.mk ⟨rfl, b, c, d⟩
/-- a change of the trial -/
theorem CRel.tri {M M' : Mem} {D : Ds} (h : CRel M D) (o : Off (RSt 1) M M') : CRel M' D := by
  have i1 := iSt_eq 1
  exact h.tmp (o.wk (fun d hd => Or.inl hd)) (h.2.2.2.2.same (fun d h1 h2 => o d (by unfold RSt; omega)))
theorem pset_Ok {P : Pg} (h : PgOk P) {j : Nat} {v : Int} (hv : setOk j v) : PgOk (pset P j v) := ⟨pset_W h.1 hv, h.2⟩
/-! THE SMALLEST SPAN -/
def spn (P : Pg) (v : Int) : Pg := pset (pset P 0 v) 1 v
theorem spn_Ok {P : Pg} (h : PgOk P) {v : Int} (h1 : 1 ≤ v) (h2 : v ≤ 24) : PgOk (spn P v) := pset_Ok (j := 1) (pset_Ok (j := 0) h (Or.inl ⟨rfl, h1, h2⟩)) (Or.inr (Or.inl ⟨rfl, h1, h2⟩))
noncomputable def spS (P : Pg) : Nat → Int
  | 0 => -9
  | n + 1 => if iz (nWhole (spn P ((24 : Int) - n)) 3) = 0 then (24 : Int) - n else spS P n
theorem spS_at (P : Pg) {i : Nat} (h1 : 1 ≤ i) (h2 : i < 25) : spS P (25 - i) = if iz (nWhole (spn P i) 3) = 0 then (i : Int) else spS P (25 - (i + 1)) := by
  have e : 25 - i = (24 - i) + 1 := by omega
  rw [e]
  show (if iz (nWhole (spn P ((24 : Int) - ((24 - i : Nat) : Int))) 3) = 0 then (24 : Int) - ((24 - i : Nat) : Int) else spS P (24 - i)) = _
  rw [show (24 : Int) - ((24 - i : Nat) : Int) = (i : Int) by omega, show 25 - (i + 1) = 24 - i by omega]
/-! THE DEAREST STAFF -/
theorem psil_Ok {P : Pg} (h : PgOk P) (s : Nat) : PgOk (psil P s) := by
  have t : ∀ s' b, gC (psil P s) s' b = if s' = s then -9 else gC P s' b := fun _ _ => rfl
  refine ⟨⟨h.1.1, h.1.2.1, fun s' b hs hb => ?_⟩, fun s' b hs hb hz => ?_⟩
  · rw [t]
    by_cases e : s' = s
    · rw [if_pos e]; exact Or.inl rfl
    · rw [if_neg e]; exact h.1.2.2 s' b hs hb
  · rw [t] at hz ⊢
    by_cases e : s' = s
    · rw [if_pos e] at hz; exact absurd hz (by decide)
    · rw [if_neg e] at hz ⊢; exact h.2 s' b hs hb hz
theorem nWhole0_rng {P : Pg} (h : PgW P) : 0 ≤ nWhole P 0 ∧ nWhole P 0 ≤ 3200 := by
  unfold nWhole
  have hB := h.1.2
  have := sg_le (f := fun b => shW P b 0) (a := 0) (b := 200) (n := gB P) (fun b hb => by
    show 0 ≤ shW P b 0 ∧ shW P b 0 ≤ 200
    unfold shW
    rw [if_pos rfl]
    exact co_rng h hb _ _)
  omega
noncomputable def dea (P : Pg) : Nat → Int × Int
  | 0 => (0, nWhole (psil P 0) 0)
  | n + 1 => if nWhole (psil P (n + 1)) 0 < (dea P n).2 then (((n + 1 : Nat) : Int), nWhole (psil P (n + 1)) 0) else dea P n
theorem dea_rng {P : Pg} (h : PgOk P) : ∀ n, (0 ≤ (dea P n).1 ∧ (dea P n).1 ≤ n) ∧ 0 ≤ (dea P n).2 ∧ (dea P n).2 ≤ 3200
  | 0 => ⟨⟨by show (0 : Int) ≤ 0; omega, by show (0 : Int) ≤ ((0 : Nat) : Int); omega⟩, nWhole0_rng (psil_Ok h 0).1⟩
  | n + 1 => by
    have ih := dea_rng h n
    have := nWhole0_rng (psil_Ok h (n + 1)).1
    unfold dea
    by_cases c : nWhole (psil P (n + 1)) 0 < (dea P n).2
    · rw [if_pos c]
      exact ⟨⟨by show (0 : Int) ≤ ((n + 1 : Nat) : Int); omega, by show ((n + 1 : Nat) : Int) ≤ ((n + 1 : Nat) : Int); omega⟩, this⟩
    · rw [if_neg c]
      exact ⟨⟨ih.1.1, by omega⟩, ih.2⟩
