/-! THE FIRST OF THE SMALLEST -/
theorem bt_fact {P : Pg} (s : Nat) : ∀ n, ∃ j, j ≤ n ∧ (bt P s n).1 = byI j ∧ canMv P s (byI j) ∧ (bt P s n).2 = nWhole (pmov P s (byI j)) 0 ∧ ∀ i, i ≤ n → canMv P s (byI i) → (bt P s n).2 < nWhole (pmov P s (byI i)) 0 ∨ ((bt P s n).2 = nWhole (pmov P s (byI i)) 0 ∧ j ≤ i)
  | 0 => by
    have e0 : byI 0 = 0 := rfl
    refine ⟨0, Nat.le_refl _, rfl, ?_, ?_, fun i hi _ => Or.inr ⟨?_, by omega⟩⟩
    · rw [e0]; intro b hb hq; rw [Int.add_zero]; exact hq
    · rw [e0, pmov0]; rfl
    · rw [show i = 0 by omega, e0, pmov0]; rfl
  | n + 1 => by
    obtain ⟨j, h1, h2, h3, h4, h5⟩ := bt_fact (P := P) s n
    have ed : bt P s (n + 1) = btS P s (byI (n + 1)) (bt P s n) := rfl
    unfold btS at ed
    by_cases c : canMv P s (byI (n + 1))
    · rw [if_pos c] at ed
      by_cases k : nWhole (pmov P s (byI (n + 1))) 0 < (bt P s n).2
      · rw [if_pos k] at ed
        rw [ed]
        refine ⟨n + 1, Nat.le_refl _, rfl, c, rfl, fun i hi ci => ?_⟩
        by_cases e : i = n + 1
        · rw [e]; exact Or.inr ⟨rfl, Nat.le_refl _⟩
        · left
          show nWhole (pmov P s (byI (n + 1))) 0 < _
          rcases h5 i (by omega) ci with z | z
          · omega
          · omega
      · rw [if_neg k] at ed
        rw [ed]
        refine ⟨j, by omega, h2, h3, h4, fun i hi ci => ?_⟩
        by_cases e : i = n + 1
        · rw [e]
          by_cases q : (bt P s n).2 = nWhole (pmov P s (byI (n + 1))) 0
          · exact Or.inr ⟨q, by omega⟩
          · left; omega
        · exact h5 i (by omega) ci
    · rw [if_neg c] at ed
      rw [ed]
      refine ⟨j, by omega, h2, h3, h4, fun i hi ci => ?_⟩
      by_cases e : i = n + 1
      · rw [e] at ci; exact absurd ci c
      · exact h5 i (by omega) ci
theorem byI_at {d : Int} (h1 : -60 ≤ d) (h2 : d ≤ 60) : ∃ i, i ≤ 120 ∧ byI i = d := by
  by_cases c : 0 < d
  · refine ⟨(2 * d - 1).toNat, by omega, ?_⟩
    unfold byI
    rw [if_pos (by omega)]
    omega
  · refine ⟨(-2 * d).toNat, by omega, ?_⟩
    unfold byI
    rw [if_neg (by omega)]
    omega
theorem byI_near {i j : Nat} (h : j ≤ i) : (byI j).natAbs < (byI i).natAbs ∨ ((byI j).natAbs = (byI i).natAbs ∧ byI i ≤ byI j) := by
  unfold byI
  by_cases a : i % 2 = 1
  · by_cases b : j % 2 = 1
    · rw [if_pos a, if_pos b]; omega
    · rw [if_pos a, if_neg b]; omega
  · by_cases b : j % 2 = 1
    · rw [if_neg a, if_pos b]; omega
    · rw [if_neg a, if_neg b]; omega
theorem dea_fact {P : Pg} : ∀ n, ∃ m : Nat, m ≤ n ∧ (dea P n).1 = (m : Int) ∧ (dea P n).2 = nWhole (psil P m) 0 ∧ ∀ i, i ≤ n → (dea P n).2 ≤ nWhole (psil P i) 0 ∧ (i < m → (dea P n).2 < nWhole (psil P i) 0)
  | 0 => ⟨0, Nat.le_refl _, rfl, rfl, fun i hi => ⟨by rw [show i = 0 by omega]; exact Int.le_refl _, fun h => absurd h (Nat.not_lt_zero i)⟩⟩
  | n + 1 => by
    obtain ⟨m, h1, h2, h3, h4⟩ := dea_fact (P := P) n
    have ed : dea P (n + 1) = if nWhole (psil P (n + 1)) 0 < (dea P n).2 then (((n + 1 : Nat) : Int), nWhole (psil P (n + 1)) 0) else dea P n := rfl
    by_cases k : nWhole (psil P (n + 1)) 0 < (dea P n).2
    · rw [if_pos k] at ed
      rw [ed]
      refine ⟨n + 1, Nat.le_refl _, rfl, rfl, fun i hi => ?_⟩
      show nWhole (psil P (n + 1)) 0 ≤ _ ∧ (_ → nWhole (psil P (n + 1)) 0 < _)
      by_cases e : i = n + 1
      · rw [e]; exact ⟨Int.le_refl _, fun z => absurd z (Nat.lt_irrefl _)⟩
      · have := (h4 i (by omega)).1
        exact ⟨by omega, fun _ => by omega⟩
    · rw [if_neg k] at ed
      rw [ed]
      refine ⟨m, by omega, h2, h3, fun i hi => ?_⟩
      by_cases e : i = n + 1
      · rw [e]; exact ⟨by omega, fun z => absurd z (by omega)⟩
      · exact h4 i (by omega)
/-! A SLOT THAT KEEPS THE PAGE -/
def Kp (D0 : Ds) (P : Pg) (D : Ds) : Prop := DOk D ∧ D.1 = D0.1 ∧ dF D 0 = true ∧ dS D 0 = P ∧ dF D 1 = dF D0 1 ∧ dS D 1 = dS D0 1
theorem Kp.act {D0 D : Ds} {P P' : Pg} (h : Kp D0 P D) (hP : PgOk P') : Kp D0 P (dPut (dRem D) P') := ⟨dPut_Ok (dRem_Ok h.1) hP, h.2⟩
theorem Kp.res {D0 D : Ds} {P : Pg} (h : Kp D0 P D) (hP : PgOk P) : Kp D0 P (dRes D P) := ⟨dRes_Ok h.1 hP, h.2⟩
def SK (D0 : Ds) (P Q : Pg) (M0 M : Mem) : Prop := ∃ D, Kp D0 P D ∧ dP D = Q ∧ St1 M0 D M
section SK
variable {D0 : Ds} {P Q : Pg} {M0 M : Mem}
theorem sk_ask {S : Nat → Prop} {β : Type} {f : Mem → Option (Int32 × Mem)} {v : Int32} (a : ∀ D, DOk D → dP D = Q → AkG S f D v D) (h : SK D0 P Q M0 M) {K : Int32 → Mem → Option β} {R : β → Prop} (k : ∀ M', SK D0 P Q M0 M' → Tot (K v M') R) (hS : ∀ d, S d → CO d := by intro d h; first | exact h | exact Or.inl h) : Tot (ob (f M) K) R := by
  obtain ⟨D, hk, hq, hs⟩ := h
  exact stp ((a D hk.1 hq).o hS) hs (fun M' h' => k M' ⟨D, hk, hq, h'⟩)
theorem sk_act {β : Type} {f : Mem → Option (Int32 × Mem)} {v : Int32} {Q' : Pg} (hQ : PgOk Q') (a : ∀ D, DOk D → dP D = Q → Ak f D v (dPut (dRem D) Q')) (h : SK D0 P Q M0 M) {K : Int32 → Mem → Option β} {R : β → Prop} (k : ∀ M', SK D0 P Q' M0 M' → Tot (K v M') R) : Tot (ob (f M) K) R := by
  obtain ⟨D, hk, hq, hs⟩ := h
  exact stp (a D hk.1 hq) hs (fun M' h' => k M' ⟨_, hk.act hQ, rfl, h'⟩)
theorem sk_res {β : Type} (hP : PgOk P) (h : SK D0 P Q M0 M) {K : Int32 → Mem → Option β} {R : β → Prop} (k : ∀ M', SK D0 P P M0 M' → Tot (K (iz (gB P : Int)) M') R) : Tot (ob (f_L_tryRestore 0 M) K) R := by
  obtain ⟨D, hk, hq, hs⟩ := h
  have a := a_rest hk.1 (s := 0) (by omega) hk.2.2.1 (x := 0) rfl
  rw [hk.2.2.2.1] at a
  exact stp a hs (fun M' h' => k M' ⟨_, hk.res hP, rfl, h'⟩)
/-- pages that cannot be told apart -/
theorem sk_peq {Q' : Pg} (h : SK D0 P Q M0 M) (e : Peq Q Q') (hQ : PgOk Q') : SK D0 P Q' M0 M := by
  obtain ⟨D, hk, hq, hs⟩ := h
  subst hq
  exact ⟨dPut D Q', ⟨dPut_Ok hk.1 hQ, hk.2⟩, rfl, hs.deq ⟨⟨rfl, fun _ _ => rfl⟩, e, ⟨rfl, fun _ _ => Peq.rf⟩, fun _ _ => ⟨rfl, fun _ => Peq.rf⟩⟩⟩
end SK
theorem mnd_id {c : Nat → Int} {n : Nat} (h : ∀ b, b < n → c b = 99 → 0 < b ∧ c (b - 1) ≠ -9) : ∀ b, b < n → mnd c b = c b
  | 0, hb => by
    show (if c 0 = 99 then -9 else c 0) = c 0
    rw [if_neg (fun z => absurd (h 0 hb z).1 (Nat.lt_irrefl 0))]
  | b + 1, hb => by
    have ih := mnd_id h b (by omega)
    show (if c (b + 1) = 99 ∧ mnd c b = -9 then -9 else c (b + 1)) = c (b + 1)
    rw [if_neg (fun z => ?_)]
    have := (h (b + 1) hb z.1).2
    rw [ih] at z
    exact this z.2
theorem mnd_at {c : Nat → Int} {b : Nat} (h : c b ≠ 99) : mnd c b = c b := by
  cases b with
  | zero =>
    show (if c 0 = 99 then -9 else c 0) = c 0
    rw [if_neg h]
  | succ b =>
    show (if c (b + 1) = 99 ∧ mnd c b = -9 then -9 else c (b + 1)) = c (b + 1)
    rw [if_neg (fun z => h z.1)]
theorem pmend_id {P : Pg} (h : PgOk P) : Peq (pmend P) P := ⟨rfl, rfl, fun _ _ => rfl, fun s b hs hb => (mnd_id (n := gB P) (fun b' hb' e => h.2 s b' hs hb' e) b hb).symm⟩
/-- a staff is emptied, beat by beat -/
def Emp (P : Pg) (k n : Nat) (Q : Pg) : Prop := PgOk Q ∧ gS Q = gS P ∧ gB Q = gB P ∧ gE Q = gE P ∧ (∀ s b, s ≠ k → s < gS P → b < gB P → gC Q s b = gC P s b) ∧ ∀ b, b < n → gC Q k b = -9
theorem Emp.step {P Q : Pg} {k n : Nat} (h : Emp P k n Q) (hn : n < gB P) : Emp P k (n + 1) (pwr Q k n (-1)) := by
  obtain ⟨h1, h2, h3, h4, h5, h6⟩ := h
  refine ⟨pwr_Ok h1.1 (Or.inl (by omega)), h2, h3, h4, fun s b hs hs2 hb => ?_, fun b hb => ?_⟩
  · have e : (fun b' => if s = k ∧ b' = n then (if (-1 : Int) < 0 then -9 else -1) else gC Q s b') = gC Q s := by
      funext b'
      rw [if_neg (fun z => hs z.1)]
    show mnd (fun b' => if s = k ∧ b' = n then (if (-1 : Int) < 0 then -9 else -1) else gC Q s b') b = _
    rw [e, mnd_id (n := gB P) (fun b' hb' e' => h1.2 s b' (by omega) (by omega) e') b hb]
    exact h5 s b hs hs2 hb
  · show mnd (fun b' => if k = k ∧ b' = n then (if (-1 : Int) < 0 then -9 else -1) else gC Q k b') b = -9
    have e : (if k = k ∧ b = n then (if (-1 : Int) < 0 then (-9 : Int) else -1) else gC Q k b) = -9 := by
      show (if k = k ∧ b = n then (if (-1 : Int) < 0 then (-9 : Int) else -1) else gC Q k b) = -9
      by_cases c : b = n
      · rw [if_pos ⟨rfl, c⟩]; rfl
      · rw [if_neg (fun z => c z.2)]
        exact h6 b (by omega)
    rw [mnd_at (by show (if k = k ∧ b = n then (if (-1 : Int) < 0 then (-9 : Int) else -1) else gC Q k b) ≠ 99; rw [e]; decide)]
    exact e
theorem Emp.all {P Q : Pg} {k : Nat} (h : Emp P k (gB P) Q) : Peq Q (psil P k) := by
  obtain ⟨h1, h2, h3, h4, h5, h6⟩ := h
  refine ⟨h2.symm, h3.symm, fun j _ => by rw [h4]; rfl, fun s b hs hb => ?_⟩
  show (if s = k then -9 else gC P s b) = gC Q s b
  by_cases c : s = k
  · rw [if_pos c, c, h6 b (by omega)]
  · rw [if_neg c]
    exact (h5 s b c (by omega) (by omega)).symm
