/-! FOR THE WHOLE IT COSTS NO MORE -/
theorem bst_min (ok : Nat → Prop) [DecidablePred ok] (f : Nat → Int) : ∀ n, n ≤ 9 → ∀ k, k < n → ok k → f (bst ok f n) ≤ f k
  | 0, _, _, h, _ => absurd h (Nat.not_lt_zero _)
  | n + 1, hn, k, hk, hok => by
    have ih := bst_min ok f n (by omega)
    unfold bst
    by_cases c : ok n ∧ (bst ok f n = 9 ∨ f n < f (bst ok f n))
    · rw [if_pos c]
      by_cases e : k = n
      · rw [e]; exact Int.le_refl _
      · have h1 := ih k (by omega) hok
        have h2 := bst_ex ok f hok n (by omega) (by omega)
        rcases c.2 with z | z
        · exact absurd z h2
        · omega
    · rw [if_neg c]
      by_cases e : k = n
      · subst e
        refine Int.not_lt.mp (fun z => c ⟨hok, Or.inr z⟩)
      · exact ih k (by omega) hok
theorem sel_min {P : Pg} {b k' k : Nat} (hk : k < 5) (hp : pkk P b k) : co P b k' (sel P b k') + ag P b (sel P b k') ≤ co P b k' k + ag P b k :=
  bst_min (pkk P b) (fun j => co P b k' j + ag P b j) 5 (by omega) k hk hp
/-- a way: a split for each beat -/
def pre (s : Nat → Nat) (b : Nat) : Nat := if b = 0 then 0 else s (b - 1)
noncomputable def way (P : Pg) (s : Nat → Nat) (n : Nat) : Int := sg (fun b => co P b (pre s b) (s b)) n
theorem way_sq (P : Pg) : nWhole P 0 = way P (sq P) (gB P) := rfl
theorem sq_way {P : Pg} (hm : gE P 5 = 1) : ∀ n, n < gB P → way P (sq P) (n + 1) + ag P n (sq P n) = co P 0 0 (sq P 0) + ag P 0 (sq P 0)
  | 0, _ => by
    show 0 + co P 0 0 (sq P 0) + ag P 0 (sq P 0) = _
    omega
  | n + 1, hn => by
    have ih := sq_way hm n (by omega)
    have e := ag_next (P := P) (b := n) hn hm (sq P n)
    have e2 : sq P (n + 1) = sel P (n + 1) (sq P n) := rfl
    show way P (sq P) (n + 1) + co P (n + 1) (sq P n) (sq P (n + 1)) + ag P (n + 1) (sq P (n + 1)) = _
    rw [e2] at *
    omega
theorem any_way {P : Pg} (hm : gE P 5 = 1) {s : Nat → Nat} (hs : ∀ b, b < gB P → s b < 5 ∧ pkk P b (s b)) : ∀ n, n < gB P → co P 0 0 (sq P 0) + ag P 0 (sq P 0) ≤ way P s (n + 1) + ag P n (s n)
  | 0, hn => by
    have h := sel_min (P := P) (b := 0) (k' := 0) (hs 0 hn).1 (hs 0 hn).2
    have e : sq P 0 = sel P 0 0 := rfl
    show _ ≤ 0 + co P 0 0 (s 0) + ag P 0 (s 0)
    rw [e]
    omega
  | n + 1, hn => by
    have ih := any_way hm hs n (by omega)
    have e := ag_next (P := P) (b := n) hn hm (s n)
    have h := sel_min (P := P) (b := n + 1) (k' := s n) (hs (n + 1) hn).1 (hs (n + 1) hn).2
    show _ ≤ way P s (n + 1) + co P (n + 1) (s n) (s (n + 1)) + ag P (n + 1) (s (n + 1))
    omega
theorem sp5 (P : Pg) (v : Int) (b : Nat) : sp (pset P 5 v) b = sp P b := rfl
theorem rs5 (P : Pg) (v : Int) (b : Nat) : ∀ n, rs1 (pset P 5 v) b n = rs1 P b n
  | 0 => rfl
  | n + 1 => by
    have ih := rs5 P v b n
    have e : ∀ ρ i, rOf (pset P 5 v) b ρ i = rOf P b ρ i := fun ρ i => rfl
    funext s
    show (if s = n ∧ 1 ≤ n ∧ n + 1 < gS P ∧ rs1 (pset P 5 v) b n s = 0 then rOf (pset P 5 v) b (rs1 (pset P 5 v) b n) s else rs1 (pset P 5 v) b n s) = _
    rw [ih, e]
    rfl
theorem drp5 (P : Pg) (v : Int) (b t : Nat) : drp (pset P 5 v) b t = drp P b t := by
  funext s
  show (if 1 ≤ s ∧ t ≤ s ∧ s + 1 < gS P ∧ rs1 (pset P 5 v) b 4 s = 0 then 3 else rs1 (pset P 5 v) b 4 s) = _
  rw [rs5]
  rfl
theorem pk5 (P : Pg) (v : Int) (b : Nat) (ρ : Nat → Int) (k : Nat) : pk (pset P 5 v) b ρ k = pk P b ρ k := rfl
theorem pkm5 (P : Pg) (v : Int) (b : Nat) (ρ : Nat → Int) : pkm (pset P 5 v) b ρ = pkm P b ρ := rfl
theorem tF5 (P : Pg) (v : Int) (b : Nat) : tF (pset P 5 v) b = tF P b := by
  unfold tF
  rw [drp5, drp5, pkm5, pkm5]
theorem rho5 (P : Pg) (v : Int) (b : Nat) : rho (pset P 5 v) b = rho P b := by
  unfold rho
  rw [tF5, drp5]
theorem nn5 (P : Pg) (v : Int) (b : Nat) : nn (pset P 5 v) b = nn P b := by
  unfold nn
  rw [rho5]
  rfl
theorem pkk5 (P : Pg) (v : Int) (b k : Nat) : pkk (pset P 5 v) b k = pkk P b k := by
  show pk (pset P 5 v) b (rho (pset P 5 v) b) k = _
  rw [rho5]
  rfl
theorem ps5 (P : Pg) (v : Int) (b h k : Nat) : ps (pset P 5 v) b h k = ps P b h k := by
  unfold ps
  rw [rho5, nn5]
  rfl
theorem wd5 (P : Pg) (v : Int) (b h k : Nat) : wd (pset P 5 v) b h k = wd P b h k := by
  unfold wd
  rw [rho5, nn5]
  rfl
theorem lb5 (P : Pg) (v : Int) (b k : Nat) : lb (pset P 5 v) b k = lb P b k := by
  unfold lb
  rw [rho5]
  rfl
theorem psB5 (P : Pg) (v : Int) (b h k : Nat) : psB (pset P 5 v) b h k = psB P b h k := by
  unfold psB
  rw [ps5]
theorem mv5 (P : Pg) (v : Int) (b k' h k : Nat) : mv (pset P 5 v) b k' h k = mv P b k' h k := by
  unfold mv
  rw [psB5, ps5]
theorem cut5 (P : Pg) (v : Int) (b k' k : Nat) : cutB (pset P 5 v) b k' k = cutB P b k' k := by
  unfold cutB kB lB
  funext s
  simp only [nn5, lb5]
  rfl
theorem nro5 (P : Pg) (v : Int) (b k : Nat) : nro (pset P 5 v) b k = nro P b k := by
  unfold nro ro
  rw [wd5, wd5]
  rfl
theorem co5 (P : Pg) (v : Int) (b k' k : Nat) : co (pset P 5 v) b k' k = co P b k' k := by
  unfold co
  rw [cut5, nro5, mv5, mv5]
theorem mode_le {P : Pg} (hP : PgOk P) (h0 : gE P 5 = 0) : nWhole (pset P 5 1) 0 ≤ nWhole P 0 ∧ co P 0 0 (sq P 0) ≤ co (pset P 5 1) 0 0 (sq (pset P 5 1) 0) := by
  have hB := hP.1.1.2
  have hP1 : PgOk (pset P 5 1) := pset_Ok hP (by omega)
  have hm : gE (pset P 5 1) 5 = 1 := rfl
  have hv : ∀ b, b < gB (pset P 5 1) → sq P b < 5 ∧ pkk (pset P 5 1) b (sq P b) := fun b hb => by
    have h := sq_in hP (b := b) hb
    refine ⟨h.1, ?_⟩
    rw [pkk5]
    exact h.2.2
  have hl : gB P - 1 < gB (pset P 5 1) := by show gB P - 1 < gB P; omega
  have a := sq_way hm (gB P - 1) hl
  have b := any_way hm hv (gB P - 1) hl
  have z : ∀ k, ag (pset P 5 1) (gB P - 1) k = 0 := fun k => ag_last (by show gB P - 1 + 1 = gB P; omega) k
  rw [z, show gB P - 1 + 1 = gB P by omega] at a b
  have w : way (pset P 5 1) (sq P) (gB P) = way P (sq P) (gB P) := sg_cong (fun i _ => co5 P 1 i _ _)
  have g0 : ∀ k, ag P 0 k = 0 := fun k => by
    unfold ag
    rw [if_neg (by omega)]
  refine ⟨?_, ?_⟩
  · rw [way_sq, way_sq]
    show way (pset P 5 1) (sq (pset P 5 1)) (gB P) ≤ _
    omega
  · rw [co5]
    have h := sq_in hP1 (b := 0) (by show 0 < gB P; omega)
    have hk := h.2.2
    rw [pkk5] at hk
    have m := sel_min (P := P) (b := 0) (k' := 0) h.1 hk
    rw [g0, g0] at m
    have e : sq P 0 = sel P 0 0 := rfl
    rw [e]
    omega
/-! THE SMALLEST SPAN -/
theorem spS_fact (P : Pg) : ∀ n i, i + n = 25 → 1 ≤ i → spS P n = -9 ∨ ∃ q : Nat, i ≤ q ∧ q ≤ 24 ∧ spS P n = q ∧ iz (nWhole (spn P q) 3) = 0 ∧ ∀ r : Nat, i ≤ r → r < q → ¬ iz (nWhole (spn P r) 3) = 0
  | 0, i, _, _ => Or.inl rfl
  | n + 1, i, h, h1 => by
    have e := spS_at P h1 (show i < 25 by omega)
    rw [show 25 - i = n + 1 by omega, show 25 - (i + 1) = n by omega] at e
    rw [e]
    by_cases c : iz (nWhole (spn P i) 3) = 0
    · rw [if_pos c]
      exact Or.inr ⟨i, Nat.le_refl _, by omega, rfl, c, fun r h2 h3 => absurd h3 (by omega)⟩
    · rw [if_neg c]
      rcases spS_fact P n (i + 1) (by omega) (by omega) with z | ⟨q, q1, q2, q3, q4, q5⟩
      · exact Or.inl z
      · refine Or.inr ⟨q, by omega, q2, q3, q4, fun r h2 h3 => ?_⟩
        by_cases d : r = i
        · rw [d]; exact c
        · exact q5 r (by omega) h3
theorem spn_again (P : Pg) (a c : Int) : pset (pset (spn P a) 0 c) 1 c = spn P c := by
  have : (fun j' => if j' = 1 then c else if j' = 0 then c else if j' = 1 then a else if j' = 0 then a else gE P j') = (fun j' => if j' = 1 then c else if j' = 0 then c else gE P j') := by
    funext j
    by_cases h1 : j = 1
    · rw [if_pos h1, if_pos h1]
    · by_cases h0 : j = 0
      · rw [if_neg h1, if_pos h0, if_neg h1, if_pos h0]
      · rw [if_neg h1, if_neg h0, if_neg h1, if_neg h0, if_neg h1, if_neg h0]
  show ((fun j' => if j' = 1 then c else if j' = 0 then c else if j' = 1 then a else if j' = 0 then a else gE P j'), gS P, gB P, gC P) = ((fun j' => if j' = 1 then c else if j' = 0 then c else gE P j'), gS P, gB P, gC P)
  rw [this]
theorem pset5 (P : Pg) (a c : Int) : pset (pset P 5 a) 5 c = pset P 5 c := by
  have : (fun j' => if j' = 5 then c else if j' = 5 then a else gE P j') = (fun j' => if j' = 5 then c else gE P j') := by
    funext j
    by_cases h : j = 5
    · rw [if_pos h, if_pos h]
    · rw [if_neg h, if_neg h, if_neg h]
  show ((fun j' => if j' = 5 then c else if j' = 5 then a else gE P j'), gS P, gB P, gC P) = ((fun j' => if j' = 5 then c else gE P j'), gS P, gB P, gC P)
  rw [this]
/-! THERE AND BACK -/
theorem staff_back {P : Pg} : Peq (pdrp (padd P)) P := ⟨by show gS P = gS P + 1 - 1; omega, rfl, fun _ _ => rfl, fun s b hs _ => by
  have hs : s < gS P + 1 - 1 := hs
  show gC P s b = if s = gS P then -9 else gC P s b
  rw [if_neg (by omega)]⟩
theorem swp_back {P : Pg} {a c : Nat} : Peq (pswp (pswp P a c) a c) P := ⟨rfl, rfl, fun _ _ => rfl, fun s b _ _ => by
  show gC P s b = if s = a then (if c = a then gC P c b else if c = c then gC P a b else gC P c b) else if s = c then (if a = a then gC P c b else if a = c then gC P a b else gC P a b) else if s = a then gC P c b else if s = c then gC P a b else gC P s b
  by_cases h1 : s = a
  · rw [if_pos h1]
    by_cases h2 : c = a
    · rw [if_pos h2, h1, h2]
    · rw [if_neg h2, if_pos rfl, h1]
  · rw [if_neg h1]
    by_cases h2 : s = c
    · rw [if_pos h2, if_pos rfl, h2]
    · rw [if_neg h2, if_neg h1, if_neg h2]⟩
theorem dif_back (P : Pg) (a c n : Nat) : nDif (pswp P a c) a c n = nDif P a c n := by
  refine sg_cong (fun b _ => ?_)
  show (if (if a = a then gC P c b else if a = c then gC P a b else gC P a b) = (if c = a then gC P c b else if c = c then gC P a b else gC P c b) then (0 : Int) else 1) = if gC P a b = gC P c b then 0 else 1
  rw [if_pos rfl]
  by_cases h : c = a
  · rw [if_pos h, if_pos rfl, h, if_pos rfl]
  · rw [if_neg h, if_pos rfl]
    by_cases d : gC P a b = gC P c b
    · rw [if_pos d, if_pos d.symm]
    · rw [if_neg d, if_neg (fun z => d z.symm)]
theorem dif_self (P : Pg) (a n : Nat) : nDif P a a n = 0 := by
  show sg (fun b => if gC P a b = gC P a b then 0 else 1) n = 0
  rw [sg_cong (g := fun _ => 0) (fun b _ => if_pos rfl)]
  induction n with
  | zero => rfl
  | succ n ih => show sg (fun _ => 0) n + 0 = 0; rw [ih]; rfl
theorem mnd_cong {c c' : Nat → Int} : ∀ b, (∀ b', b' ≤ b → c b' = c' b') → mnd c b = mnd c' b
  | 0, h => by
    show (if c 0 = 99 then -9 else c 0) = (if c' 0 = 99 then -9 else c' 0)
    rw [h 0 (Nat.le_refl 0)]
  | b + 1, h => by
    have ih := mnd_cong b (fun b' hb => h b' (by omega))
    show (if c (b + 1) = 99 ∧ mnd c b = -9 then -9 else c (b + 1)) = (if c' (b + 1) = 99 ∧ mnd c' b = -9 then -9 else c' (b + 1))
    rw [ih, h (b + 1) (Nat.le_refl _)]
theorem ins_cell {P : Pg} (hP : PgOk P) {s b : Nat} (hs : s < gS P) (hb : b < gB P) : gC (pmend (popn P (gB P))) s b = gC P s b := by
  show mnd (fun b => if b < gB P then gC P s b else if b = gB P then -9 else gC P s (b - 1)) b = _
  rw [mnd_cong (c' := gC P s) b (fun b' hb' => if_pos (by omega))]
  exact mnd_id (n := gB P) (fun b' hb' e => hP.2 s b' hs hb' e) b hb
theorem ins_last {P : Pg} (s : Nat) : gC (pmend (popn P (gB P))) s (gB P) = -9 := by
  show mnd (fun b => if b < gB P then gC P s b else if b = gB P then -9 else gC P s (b - 1)) (gB P) = _
  have e : (if gB P < gB P then gC P s (gB P) else if gB P = gB P then (-9 : Int) else gC P s (gB P - 1)) = -9 := by
    show (if gB P < gB P then gC P s (gB P) else if gB P = gB P then (-9 : Int) else gC P s (gB P - 1)) = -9
    rw [if_neg (Nat.lt_irrefl _), if_pos rfl]
  rw [mnd_at (by show (if gB P < gB P then gC P s (gB P) else if gB P = gB P then (-9 : Int) else gC P s (gB P - 1)) ≠ 99; rw [e]; decide)]
  exact e
theorem beat_back {P : Pg} (hP : PgOk P) : Peq (pmend (pcls (pmend (popn P (gB P))) (gB P))) P := ⟨rfl, by show gB P = gB P + 1 - 1; omega, fun _ _ => rfl, fun s b hs hb => by
  have hs : s < gS P := hs
  have hb : b < gB P + 1 - 1 := hb
  show gC P s b = mnd (fun b' => if b' < gB P then gC (pmend (popn P (gB P))) s b' else gC (pmend (popn P (gB P))) s (b' + 1)) b
  rw [mnd_cong (c' := gC P s) b (fun b' hb' => by rw [if_pos (by omega)]; exact ins_cell hP hs (by omega))]
  exact (mnd_id (n := gB P) (fun b' hb' e => hP.2 s b' hs hb' e) b (by omega)).symm⟩
