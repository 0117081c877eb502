/-! COSTS -/
noncomputable def nn (P : Pg) (b : Nat) : Nat := rN P b (rho P b)
noncomputable def ps (P : Pg) (b h k : Nat) : Int := if h = 0 then posP P b (rho P b) 0 k else posP P b (rho P b) k (nn P b)
noncomputable def wd (P : Pg) (b h k : Nat) : Int := if h = 0 then widP P b (rho P b) 0 k else widP P b (rho P b) k (nn P b)
noncomputable def lb (P : Pg) (b k : Nat) : Nat → Bool := lf P b (rho P b) k
noncomputable def kB (P : Pg) (b s : Nat) : Bool := if b = 0 then false else lb P (b - 1) (nn P (b - 1)) s
noncomputable def lB (P : Pg) (b k' s : Nat) : Bool := if b = 0 then false else lb P (b - 1) k' s
noncomputable def cutB (P : Pg) (b k' k : Nat) : Nat → Bool := fun s => (decide (hd P b s) && lb P b (nn P b) s) && (!kB P b s || (lb P b k s != lB P b k' s))
noncomputable def psB (P : Pg) (b h k' : Nat) : Int := if b = 0 then -9 else ps P (b - 1) h k'
noncomputable def mv (P : Pg) (b k' h k : Nat) : Int := if psB P b h k' = -9 then 0 else if ps P b h k = -9 then 0 else if ps P b h k ≤ psB P b h k' then psB P b h k' - ps P b h k else ps P b h k - psB P b h k'
abbrev ro (P : Pg) (b h k : Nat) : Prop := gE P h < wd P b h k
noncomputable def nro (P : Pg) (b k : Nat) : Int := (if ro P b 0 k then 1 else 0) + (if ro P b 1 k then 1 else 0)
noncomputable def co (P : Pg) (b k' k : Nat) : Int := 10 * nf (cutB P b k' k) + 5 * nro P b k + mv P b k' 0 k + mv P b k' 1 k
abbrev pkk (P : Pg) (b k : Nat) : Prop := pk P b (rho P b) k
def ixB (b : Nat) : Nat := if b = 0 then 16 else b - 1
def okB (P : Pg) (b k' : Nat) : Prop := (b = 0 ∧ k' = 0) ∨ (0 < b ∧ k' ≤ nn P (b - 1))
def SIL (M : Mem) : Prop := M (iCh 16) 9 = iz 0 ∧ M (iCh 16 + 7) 0 = iz (-9) ∧ M (iCh 16 + 8) 0 = iz (-9) ∧ M (iCh 16 + 5) 0 = iz 0
/-- the chords stand -/
def RC (M : Mem) (P : Pg) : Prop := M 7 4 = iz (gB P) ∧ (∀ b, b < gB P → CF M b P b) ∧ SIL M
theorem and_or3 (x y z : Int32) : x &&& (y ||| z) = (x &&& y) ||| (x &&& z) := by
  apply Int32.toBitVec.inj
  simp only [Int32.toBitVec_and, Int32.toBitVec_or]
  apply BitVec.eq_of_getLsbD_eq
  intro i hi
  simp only [BitVec.getLsbD_and, BitVec.getLsbD_or]
  cases x.toBitVec.getLsbD i <;> cases y.toBitVec.getLsbD i <;> cases z.toBitVec.getLsbD i <;> rfl
theorem mf_cut (a k l l' : Nat → Bool) : mf a &&& ((mf k ^^^ (-1)) ||| (mf l ^^^ mf l')) = mf (fun s => a s && (!k s || (l s != l' s))) := by
  rw [and_or3, mf_andn, mf_xor, mf_and, mf_or]
  refine mf_cong fun s _ => ?_
  cases a s <;> cases k s <;> cases l s <;> cases l' s <;> rfl
theorem posP_rng {P : Pg} (hP : PgW P) {b : Nat} (hb : b < gB P) (ρ : Nat → Int) (i j : Nat) : -9 ≤ posP P b ρ i j ∧ posP P b ρ i j ≤ 60 := by
  unfold posP pt
  split
  · exact sp_rng hP hb _
  · omega
theorem ps_rng {P : Pg} (hP : PgW P) {b : Nat} (hb : b < gB P) (h k : Nat) : -9 ≤ ps P b h k ∧ ps P b h k ≤ 60 := by
  unfold ps
  split <;> exact posP_rng hP hb _ _ _
theorem psB_rng {P : Pg} (hP : PgW P) {b : Nat} (hb : b < gB P) (h k : Nat) : -9 ≤ psB P b h k ∧ psB P b h k ≤ 60 := by
  unfold psB
  split
  · omega
  · exact ps_rng hP (by omega) h k
theorem mv_rng {P : Pg} (hP : PgW P) {b : Nat} (hb : b < gB P) (k' h k : Nat) : 0 ≤ mv P b k' h k ∧ mv P b k' h k ≤ 69 := by
  have a1 := ps_rng hP hb h k
  have a2 := psB_rng hP hb h k'
  unfold mv
  repeat' split
  all_goals omega
theorem nro_rng (P : Pg) (b k : Nat) : 0 ≤ nro P b k ∧ nro P b k ≤ 2 := by
  unfold nro
  repeat' split
  all_goals omega
theorem co_rng {P : Pg} (hP : PgW P) {b : Nat} (hb : b < gB P) (k' k : Nat) : 0 ≤ co P b k' k ∧ co P b k' k ≤ 200 := by
  have a1 := mv_rng hP hb k' 0 k
  have a2 := mv_rng hP hb k' 1 k
  have a3 := nro_rng P b k
  have a4 := nf_rng (cutB P b k' k)
  unfold co
  omega
section RED
variable {M : Mem} {P : Pg} {b c : Nat}
theorem nn4 (h : CF M c P b) : nn P b ≤ 4 := row_n4 h.2.1.2.2.2
theorem cf_left (h : CF M c P b) {k : Nat} (hk : k ≤ nn P b) : M (iCh c + 5) k = mf (lb P b k) := h.2.1.2.2.1 k hk
theorem cf_size (h : CF M c P b) : M (iCh c) 9 = iz (nn P b) := h.2.1.1
theorem cf_pos (h : CF M c P b) {hh k : Nat} (h2 : hh < 2) (hk : k ≤ nn P b) : M (iCh c + 7 + hh) k = iz (ps P b hh k) := by
  have x := h.2.2.2.2 k hk
  unfold ps
  rcases (show hh = 0 ∨ hh = 1 by omega) with rfl | rfl
  · rw [if_pos rfl]; exact x.1.1
  · rw [if_neg (by omega)]; exact x.1.2
theorem cf_wid (h : CF M c P b) {hh k : Nat} (h2 : hh < 2) (hk : k ≤ nn P b) : M (iCh c + 10 + hh) k = iz (wd P b hh k) := by
  have x := h.2.2.2.2 k hk
  unfold wd
  rcases (show hh = 0 ∨ hh = 1 by omega) with rfl | rfl
  · rw [if_pos rfl]; exact x.2.1
  · rw [if_neg (by omega)]; exact x.2.2
theorem cf_span (h : CF M c P b) {hh : Nat} (h2 : hh < 2) : M (iCh c + 1) hh = iz (gE P hh) := by
  rcases (show hh = 0 ∨ hh = 1 by omega) with rfl | rfl
  · exact h.1.2.2.1.1.1
  · exact h.1.2.2.1.1.2
theorem wd_rng (h : CF M c P b) (hP : PgW P) (hb : b < gB P) {hh k : Nat} (hk : k ≤ nn P b) : 0 ≤ wd P b hh k ∧ wd P b hh k ≤ 69 := by
  unfold wd
  split
  · exact widP_rng h.2.1 hP hb hk
  · exact widP_rng h.2.1 hP hb (by unfold nn; omega)
theorem isRolled_eq (h : CF M c P b) (hP : PgW P) (hb : b < gB P) {hh k : Nat} (h2 : hh < 2) (hk : k ≤ nn P b) : f_X0_isRolled c (iz hh) (iz k) M = some (bz (ro P b hh k), M) := by
  unfold f_X0_isRolled
  have n4 := nn4 h
  have w := wd_rng h hP hb (hh := hh) hk
  have e := PgE_rng hP.2.1 (j := hh) (by omega)
  rw [cl_n (n := hh) (by omega), cl_n (n := k) (by omega), cf_wid h h2 hk, cf_span h h2]
  simp (disch := omega) only [iz_lit, iz_neg, iz_add, iz_sub, iz_mul, iz_lt, iz_le, iz_eq, iz_inb, iz_cl, bz_0, ob_some]
  rw [if_pos (by omega), if_pos (by omega), if_pos (by omega)]
  by_cases c0 : wd P b hh k ≤ gE P hh
  · rw [if_pos c0, bz_f (by unfold ro; omega)]
  · rw [if_neg c0, bz_t (by unfold ro; omega)]
theorem countRolled_eq (h : CF M c P b) (hP : PgW P) (hb : b < gB P) {k : Nat} (hk : k ≤ nn P b) : f_X0_countRolled c (iz k) M = some (iz (nro P b k), M) := by
  unfold f_X0_countRolled
  have e0 : f_X0_isRolled c (iz 0) (iz k) M = _ := isRolled_eq h hP hb (hh := 0) (by omega) hk
  have e1 : f_X0_isRolled c (iz 1) (iz k) M = _ := isRolled_eq h hP hb (hh := 1) (by omega) hk
  rw [show (0 : Int32) = iz 0 from rfl, show (1 : Int32) = iz 1 from rfl, e0, ob_some]
  unfold f_X0_countRolled_b14
  rw [show (1 : Int32) = iz 1 from rfl, e1, ob_some]
  simp (disch := omega) only [iz_lit, iz_neg, iz_add, iz_sub, iz_mul, iz_lt, iz_le, iz_eq, iz_inb, iz_cl, bz_0, ob_some]
  unfold nro
  by_cases c0 : ro P b 0 k
  · rw [if_neg (fun z => z c0), if_pos c0]
    by_cases c1 : ro P b 1 k
    · rw [if_neg (fun z => z c1), if_pos c1]
    · rw [if_pos c1, if_neg c1]
  · rw [if_pos c0, if_neg c0]
    by_cases c1 : ro P b 1 k
    · rw [if_neg (fun z => z c1), if_pos c1]
    · rw [if_pos c1, if_neg c1]
theorem befo (h : RC M P) (hP : PgD P) (hb : b < gB P) {k' : Nat} (hk : okB P b k') : ixB b < 17 ∧ k' ≤ 4 ∧ (∃ n, n ≤ 4 ∧ M (iCh (ixB b)) 9 = iz (n : Nat) ∧ M (iCh (ixB b) + 5) n = mf (kB P b)) ∧ M (iCh (ixB b) + 5) k' = mf (lB P b k') ∧ ∀ hh, hh < 2 → M (iCh (ixB b) + 7 + hh) k' = iz (psB P b hh k') := by
  have h2 := hP.2
  unfold ixB
  rcases hk with ⟨rfl, rfl⟩ | ⟨hb0, hk⟩
  · rw [if_pos rfl]
    have s := h.2.2
    have e0 : ∀ x, x = iz 0 → ∀ f : Nat → Bool, (∀ s, f s = false) → x = mf f := fun x hx f hf => by
      rw [hx, ← mf_none]
      exact mf_cong (fun s _ => (hf s).symm)
    refine ⟨by omega, by omega, ⟨0, by omega, s.1, e0 _ s.2.2.2 _ (fun s => ?_)⟩, e0 _ s.2.2.2 _ (fun s => ?_), fun hh h2 => ?_⟩
    · unfold kB; rw [if_pos rfl]
    · unfold lB; rw [if_pos rfl]
    · unfold psB; rw [if_pos rfl]
      rcases (show hh = 0 ∨ hh = 1 by omega) with rfl | rfl
      · exact s.2.1
      · exact s.2.2.1
  · rw [if_neg (by omega)]
    have hF := h.2.1 (b - 1) (by omega)
    have n4 := nn4 hF
    refine ⟨by omega, by omega, ⟨nn P (b - 1), n4, cf_size hF, ?_⟩, ?_, fun hh h2 => ?_⟩
    · rw [cf_left hF (by omega)]
      refine mf_cong fun s _ => ?_
      unfold kB; rw [if_neg (by omega)]
    · rw [cf_left hF hk]
      refine mf_cong fun s _ => ?_
      unfold lB; rw [if_neg (by omega)]
    · unfold psB; rw [if_neg (by omega)]
      exact cf_pos hF h2 hk
theorem cutStaves_eq (h : RC M P) (hP : PgD P) (hb : b < gB P) {k k' : Nat} (hk : k ≤ nn P b) (hk' : okB P b k') : f_X0_cutStaves b (iz k) (ixB b) (iz k') M = some (mf (cutB P b k' k), M) := by
  unfold f_X0_cutStaves
  obtain ⟨hx, h4, ⟨n, hn, e9, e5⟩, el, _⟩ := befo h hP hb hk'
  have hF := h.2.1 b hb
  have n4 := nn4 hF
  rw [e9, cl_n (n := n) (by omega), e5, cl_n (n := k) (by omega), cl_n (n := k') (by omega), el, cf_left hF hk, hF.2.2.1, mf_cut]
  simp (disch := omega) only [iz_lit, iz_neg, iz_add, iz_sub, iz_mul, iz_lt, iz_le, iz_eq, iz_inb, iz_cl, bz_0, ob_some]
  rw [if_pos (by omega), if_pos (by omega), if_pos (by omega)]
  rfl
theorem cmove_eq (h : RC M P) (hP : PgW P) (hb : b < gB P) {k k' hh : Nat} (h2 : hh < 2) (hk : k ≤ nn P b) (hk' : okB P b k') : f_X0_move b (iz hh) (iz k) (ixB b) (iz k') M = some (iz (mv P b k' hh k), M) := by
  unfold f_X0_move
  obtain ⟨hx, h4, _, _, ep⟩ := befo h hP.1 hb hk'
  have hF := h.2.1 b hb
  have n4 := nn4 hF
  have a1 := ps_rng hP hb hh k
  have a2 := psB_rng hP hb hh k'
  rw [cl_n (n := hh) (by omega), cl_n (n := k) (by omega), cl_n (n := k') (by omega), ep hh h2, cf_pos hF h2 hk]
  simp (disch := omega) only [iz_lit, iz_neg, iz_add, iz_sub, iz_mul, iz_lt, iz_le, iz_eq, iz_inb, iz_cl, bz_0, ob_some]
  rw [if_pos (by omega), if_pos (by omega), if_pos (by omega), if_pos (by omega)]
  unfold mv
  by_cases c1 : psB P b hh k' = -9
  · rw [if_pos c1, if_pos c1]
  · rw [if_neg c1, if_neg c1]
    by_cases c2 : ps P b hh k = -9
    · rw [if_pos c2, if_pos c2]
    · rw [if_neg c2, if_neg c2]
      by_cases c3 : ps P b hh k ≤ psB P b hh k'
      · rw [if_pos c3, if_pos c3]
      · rw [if_neg c3, if_neg c3]
theorem ccosts_eq (h : RC M P) (hP : PgW P) (hb : b < gB P) {k k' : Nat} (hk : k ≤ nn P b) (hk' : okB P b k') : f_X0_costs b (iz k) (ixB b) (iz k') M = some (iz (co P b k' k), M) := by
  unfold f_X0_costs
  have m0 : f_X0_move b (iz 0) (iz k) (ixB b) (iz k') M = _ := cmove_eq h hP hb (hh := 0) (by omega) hk hk'
  have m1 : f_X0_move b (iz 1) (iz k) (ixB b) (iz k') M = _ := cmove_eq h hP hb (hh := 1) (by omega) hk hk'
  rw [cutStaves_eq h hP.1 hb hk hk', ob_some, bitCount_eq, ob_some, countRolled_eq (h.2.1 b hb) hP hb hk, ob_some, show (0 : Int32) = iz 0 from rfl, show (1 : Int32) = iz 1 from rfl, m0, ob_some, m1, ob_some]
  simp (disch := omega) only [iz_lit, iz_neg, iz_add, iz_sub, iz_mul, iz_lt, iz_le, iz_eq, iz_inb, iz_cl, bz_0, ob_some]
  rfl
end RED
