/-! ROWS: kept staves, the lowest pitch first, of equal ones the greater staff -/
abbrev LT (p : Nat → Int) (s t : Nat) : Prop := p s < p t ∨ (p s = p t ∧ t < s)
theorem LT_tr {p : Nat → Int} {a b c : Nat} (h : LT p a b) (k : LT p b c) : LT p a c := by omega
def IsRow (p : Nat → Int) (T : Nat → Prop) (n : Nat) (r : Nat → Nat) : Prop :=
  (∀ i, i < n → r i < 4 ∧ T (r i)) ∧ (∀ s, s < 4 → T s → ∃ i, i < n ∧ r i = s) ∧ ∀ i j, i < j → j < n → LT p (r i) (r j)
theorem row_uniq_at {p : Nat → Int} {T : Nat → Prop} {n m : Nat} {r q : Nat → Nat} (h : IsRow p T n r) (k : IsRow p T m q) : ∀ i, i < n → i < m → r i = q i := by
  intro i
  induction i using Nat.strongRecOn with
  | ind i ih =>
    intro hn hm
    obtain ⟨j, hj, ej⟩ := k.2.1 (r i) (h.1 i hn).1 (h.1 i hn).2
    obtain ⟨j', hj', ej'⟩ := h.2.1 (q i) (k.1 i hm).1 (k.1 i hm).2
    have a : ¬ j < i := fun c => by
      have e := ih j c (by omega) hj
      have l := h.2.2 j i c hn
      rw [e, ej] at l
      omega
    have a' : ¬ j' < i := fun c => by
      have e := ih j' c hj' (by omega)
      have l := k.2.2 j' i c hm
      rw [← e, ej'] at l
      omega
    by_cases b : j = i
    · rw [b] at ej; exact ej.symm
    · by_cases b' : j' = i
      · rw [b'] at ej'; exact ej'
      · have l1 := k.2.2 i j (by omega) hj
        have l2 := h.2.2 i j' (by omega) hj'
        rw [ej] at l1
        rw [ej'] at l2
        omega
theorem row_le {p : Nat → Int} {T : Nat → Prop} {n m : Nat} {r q : Nat → Nat} (h : IsRow p T n r) (k : IsRow p T m q) : n ≤ m := by
  refine Nat.le_of_not_lt fun c => ?_
  obtain ⟨j, hj, ej⟩ := k.2.1 (r m) (h.1 m c).1 (h.1 m c).2
  have e := row_uniq_at h k j (by omega) hj
  have l := h.2.2 j m hj c
  rw [e, ej] at l
  omega
theorem row_uniq {p : Nat → Int} {T : Nat → Prop} {n m : Nat} {r q : Nat → Nat} (h : IsRow p T n r) (k : IsRow p T m q) : n = m ∧ ∀ i, i < n → r i = q i := by
  have e : n = m := Nat.le_antisymm (row_le h k) (row_le k h)
  exact ⟨e, fun i hi => row_uniq_at h k i hi (by omega)⟩
theorem pig5 : ∀ a b c d e : Fin 4, a = b ∨ a = c ∨ a = d ∨ a = e ∨ b = c ∨ b = d ∨ b = e ∨ c = d ∨ c = e ∨ d = e := by decide
theorem row_n4 {p : Nat → Int} {T : Nat → Prop} {n : Nat} {r : Nat → Nat} (h : IsRow p T n r) : n ≤ 4 := by
  refine Nat.le_of_not_lt fun c => ?_
  have d : ∀ i j, i < j → j < n → r i ≠ r j := fun i j a b e => by
    have l := h.2.2 i j a b
    rw [e] at l
    omega
  have v : ∀ i, i < 5 → r i < 4 := fun i hi => (h.1 i (by omega)).1
  have := pig5 ⟨r 0, v 0 (by omega)⟩ ⟨r 1, v 1 (by omega)⟩ ⟨r 2, v 2 (by omega)⟩ ⟨r 3, v 3 (by omega)⟩ ⟨r 4, v 4 (by omega)⟩
  simp only [Fin.mk.injEq] at this
  rcases this with e | e | e | e | e | e | e | e | e | e
  · exact d 0 1 (by omega) (by omega) e
  · exact d 0 2 (by omega) (by omega) e
  · exact d 0 3 (by omega) (by omega) e
  · exact d 0 4 (by omega) (by omega) e
  · exact d 1 2 (by omega) (by omega) e
  · exact d 1 3 (by omega) (by omega) e
  · exact d 1 4 (by omega) (by omega) e
  · exact d 2 3 (by omega) (by omega) e
  · exact d 2 4 (by omega) (by omega) e
  · exact d 3 4 (by omega) (by omega) e
theorem row_nil {p : Nat → Int} {T : Nat → Prop} (h : ∀ s, s < 4 → ¬ T s) (r : Nat → Nat) : IsRow p T 0 r :=
  ⟨fun i hi => absurd hi (Nat.not_lt_zero i), fun s hs t => absurd t (h s hs), fun i j _ hj => absurd hj (Nat.not_lt_zero j)⟩
/-- one more in its place -/
def rIns (r : Nat → Nat) (a s : Nat) : Nat → Nat := fun i => if i < a then r i else if i = a then s else r (i - 1)
theorem row_ins {p : Nat → Int} {T T' : Nat → Prop} {n : Nat} {r : Nat → Nat} (h : IsRow p T n r) {s a : Nat} (hs : s < 4) (ha : a ≤ n) (h1 : ∀ i, i < a → LT p (r i) s) (h2 : ∀ i, a ≤ i → i < n → LT p s (r i)) (hT : ∀ t, T' t ↔ (T t ∨ t = s)) : IsRow p T' (n + 1) (rIns r a s) := by
  have e1 : ∀ i, i < a → rIns r a s i = r i := fun i hi => if_pos hi
  have e2 : rIns r a s a = s := by unfold rIns; rw [if_neg (by omega), if_pos rfl]
  have e3 : ∀ i, a < i → rIns r a s i = r (i - 1) := fun i hi => by unfold rIns; rw [if_neg (by omega), if_neg (by omega)]
  refine ⟨fun i hi => ?_, fun t ht hT' => ?_, fun i j hij hj => ?_⟩
  · rcases Nat.lt_trichotomy i a with c | c | c
    · rw [e1 i c]
      have := h.1 i (by omega)
      exact ⟨this.1, (hT _).mpr (Or.inl this.2)⟩
    · rw [c, e2]
      exact ⟨hs, (hT _).mpr (Or.inr rfl)⟩
    · rw [e3 i c]
      have := h.1 (i - 1) (by omega)
      exact ⟨this.1, (hT _).mpr (Or.inl this.2)⟩
  · rcases (hT t).mp hT' with c | c
    · obtain ⟨i, hi, e⟩ := h.2.1 t ht c
      by_cases d : i < a
      · exact ⟨i, by omega, by rw [e1 i d, e]⟩
      · exact ⟨i + 1, by omega, by rw [e3 (i + 1) (by omega), show i + 1 - 1 = i by omega, e]⟩
    · exact ⟨a, by omega, by rw [e2, c]⟩
  · rcases Nat.lt_trichotomy i a with c | c | c
    · rw [e1 i c]
      rcases Nat.lt_trichotomy j a with d | d | d
      · rw [e1 j d]; exact h.2.2 i j hij (by omega)
      · rw [d, e2]; exact h1 i c
      · rw [e3 j d]
        exact LT_tr (h1 i c) (h2 (j - 1) (by omega) (by omega))
    · rw [c, e2, e3 j (by omega)]
      exact h2 (j - 1) (by omega) (by omega)
    · rw [e3 i c, e3 j (by omega)]
      exact h.2.2 (i - 1) (j - 1) (by omega) (by omega)
theorem row_cong {p : Nat → Int} {T T' : Nat → Prop} {n : Nat} {r r' : Nat → Nat} (h : IsRow p T n r) (hT : ∀ s, s < 4 → (T' s ↔ T s)) (hr : ∀ i, i < n → r' i = r i) : IsRow p T' n r' := by
  refine ⟨fun i hi => ?_, fun s hs t => ?_, fun i j hij hj => ?_⟩
  · rw [hr i hi]
    exact ⟨(h.1 i hi).1, (hT _ (h.1 i hi).1).mpr (h.1 i hi).2⟩
  · obtain ⟨i, hi, e⟩ := h.2.1 s hs ((hT s hs).mp t)
    exact ⟨i, hi, by rw [hr i hi, e]⟩
  · rw [hr i (by omega), hr j hj]
    exact h.2.2 i j hij hj
/-- the row of a set; nothing where there is none -/
noncomputable def rwX (p : Nat → Int) (T : Nat → Prop) : Nat × (Nat → Nat) := Classical.epsilon (fun x : Nat × (Nat → Nat) => IsRow p T x.1 x.2)
theorem rwX_eq {p : Nat → Int} {T : Nat → Prop} {n : Nat} {r : Nat → Nat} (h : IsRow p T n r) : IsRow p T (rwX p T).1 (rwX p T).2 ∧ n = (rwX p T).1 ∧ ∀ i, i < n → r i = (rwX p T).2 i := by
  have e : IsRow p T (rwX p T).1 (rwX p T).2 := Classical.epsilon_spec (p := fun x : Nat × (Nat → Nat) => IsRow p T x.1 x.2) ⟨(n, r), h⟩
  exact ⟨e, row_uniq h e⟩
/-! WHAT IS ASKED OF THE MUSIC -/
def sp (P : Pg) (b s : Nat) : Int := if s < gS P then snd (gC P s) b else -9
abbrev hd (P : Pg) (b s : Nat) : Prop := s < gS P ∧ gC P s b = 99
abbrev KB (P : Pg) (i k : Nat) : Prop := k < i ∨ k = gS P - 1
def r0 (P : Pg) (b s : Nat) : Int := if sp P b s = -9 then -9 else 0
abbrev ex1 (P : Pg) (b : Nat) (ρ : Nat → Int) (i n : Nat) : Prop := ∃ k, k < n ∧ (KB P i k ∧ ρ k = 0) ∧ sp P b i = sp P b k
abbrev ex2 (P : Pg) (b : Nat) (ρ : Nat → Int) (i n : Nat) : Prop := gE P 4 = 1 ∧ ∃ k, k < n ∧ (KB P i k ∧ ρ k = 0) ∧ (sp P b i - sp P b k) % 12 = 0
def rOf (P : Pg) (b : Nat) (ρ : Nat → Int) (i : Nat) : Int := if ex1 P b ρ i 4 then 1 else if ex2 P b ρ i 4 then 2 else 0
/-- the reasons when the inner staves before n have been looked at -/
def rs1 (P : Pg) (b : Nat) : Nat → Nat → Int
  | 0 => r0 P b
  | n + 1 => fun s => if s = n ∧ 1 ≤ n ∧ n + 1 < gS P ∧ rs1 P b n s = 0 then rOf P b (rs1 P b n) s else rs1 P b n s
/-- inner staves from t left out -/
def drp (P : Pg) (b t : Nat) : Nat → Int := fun s => if 1 ≤ s ∧ t ≤ s ∧ s + 1 < gS P ∧ rs1 P b 4 s = 0 then 3 else rs1 P b 4 s
abbrev kp (ρ : Nat → Int) (s : Nat) : Prop := ρ s = 0
noncomputable def rN (P : Pg) (b : Nat) (ρ : Nat → Int) : Nat := (rwX (sp P b) (kp ρ)).1
noncomputable def rR (P : Pg) (b : Nat) (ρ : Nat → Int) : Nat → Nat := (rwX (sp P b) (kp ρ)).2
/-- pitch of the i-th kept note -/
noncomputable def pt (P : Pg) (b : Nat) (ρ : Nat → Int) (i : Nat) : Int := sp P b (rR P b ρ i)
noncomputable def frH (h k : Nat) : Nat := if h = 0 then 0 else k
noncomputable def toH (h k n : Nat) : Nat := if h = 0 then k else n
noncomputable def posP (P : Pg) (b : Nat) (ρ : Nat → Int) (i j : Nat) : Int := if i < j then pt P b ρ i else -9
noncomputable def widP (P : Pg) (b : Nat) (ρ : Nat → Int) (i j : Nat) : Int := if i < j then pt P b ρ (j - 1) - pt P b ρ i else 0
abbrev hdIn (P : Pg) (b : Nat) (ρ : Nat → Int) (i j : Nat) : Prop := ∃ m, m < j ∧ i ≤ m ∧ hd P b (rR P b ρ m)
abbrev canP (P : Pg) (b : Nat) (ρ : Nat → Int) (h i j : Nat) : Prop := (j : Int) - i ≤ gE P 2 ∧ widP P b ρ i j ≤ gE P h + (if hdIn P b ρ i j then 0 else gE P 3)
abbrev pk (P : Pg) (b : Nat) (ρ : Nat → Int) (k : Nat) : Prop := k ≤ rN P b ρ ∧ canP P b ρ 0 0 k ∧ canP P b ρ 1 k (rN P b ρ)
noncomputable def pkm (P : Pg) (b : Nat) (ρ : Nat → Int) : Int32 := mf (fun k => decide (pk P b ρ k))
noncomputable def tF (P : Pg) (b : Nat) : Nat := if pkm P b (drp P b 3) ≠ 0 then 3 else if pkm P b (drp P b 2) ≠ 0 then 2 else 1
noncomputable def rho (P : Pg) (b : Nat) : Nat → Int := drp P b (tF P b)
