/-! TEXT: what both read -/
abbrev Tx : Type := Nat × (Nat → Int)
def sgn (T : Tx) (p : Nat) : Int := if p < T.1 then T.2 p else -1
def dig (T : Tx) (p : Nat) : Int := if 48 ≤ sgn T p ∧ sgn T p ≤ 57 then sgn T p - 48 else -1
def TOk (T : Tx) : Prop := T.1 ≤ 140 ∧ ∀ i, i < T.1 → 0 ≤ T.2 i ∧ T.2 i ≤ 255
theorem sgn_rng {T : Tx} (h : TOk T) (p : Nat) : -1 ≤ sgn T p ∧ sgn T p ≤ 255 := by
  unfold sgn
  by_cases c : p < T.1
  · rw [if_pos c]; have := h.2 p c; omega
  · rw [if_neg c]; omega
theorem sgn_lt {T : Tx} {p : Nat} (h : sgn T p ≠ -1) : p < T.1 := by
  unfold sgn at h
  by_cases c : p < T.1
  · exact c
  · rw [if_neg c] at h; omega
theorem dig_rng (T : Tx) (p : Nat) : -1 ≤ dig T p ∧ dig T p ≤ 9 := by
  unfold dig
  split <;> omega
theorem dig_lt {T : Tx} {p : Nat} (h : 0 ≤ dig T p) : p < T.1 := by
  refine sgn_lt (fun e => ?_)
  unfold dig at h
  rw [e, if_neg (by omega)] at h
  omega
/-- the cell before, in its row -/
def pvs (c : Nat → Nat → Int) (s b : Nat) : Int := if b = 0 then -9 else c s (b - 1)
def cset (c : Nat → Nat → Int) (s b : Nat) (v : Int) : Nat → Nat → Int := fun s' b' => if s' = s ∧ b' = b then v else c s' b'
def rc (T : Tx) (pv : Int) (p : Nat) : Bool × Nat × Int :=
  if sgn T p = 45 then (true, p + 1, -9)
  else if sgn T p = 61 ∧ pv ≠ -9 then (true, p + 1, 99)
  else if 0 ≤ dig T p ∧ dig T p ≤ 6 then
    (if 0 ≤ dig T (p + 1) ∧ 10 * dig T p + dig T (p + 1) ≤ 60 then (true, p + 2, 10 * dig T p + dig T (p + 1)) else (false, p + 1, -9))
  else (false, p, -9)
theorem rc_rng {T : Tx} {pv : Int} {p : Nat} (hp : p ≤ T.1) : (rc T pv p).2.1 ≤ T.1 ∧ cOk (rc T pv p).2.2 ∧ ((rc T pv p).2.2 = 99 → pv ≠ -9) := by
  unfold rc
  by_cases c1 : sgn T p = 45
  · rw [if_pos c1]
    have := sgn_lt (T := T) (p := p) (by omega)
    exact ⟨by show p + 1 ≤ T.1; omega, Or.inl rfl, fun z => absurd (show (-9 : Int) = 99 from z) (by decide)⟩
  · rw [if_neg c1]
    by_cases c2 : sgn T p = 61 ∧ pv ≠ -9
    · rw [if_pos c2]
      have := sgn_lt (T := T) (p := p) (by omega)
      exact ⟨by show p + 1 ≤ T.1; omega, Or.inr (Or.inl rfl), fun _ => c2.2⟩
    · rw [if_neg c2]
      by_cases c3 : 0 ≤ dig T p ∧ dig T p ≤ 6
      · rw [if_pos c3]
        have l1 := dig_lt c3.1
        by_cases c4 : 0 ≤ dig T (p + 1) ∧ 10 * dig T p + dig T (p + 1) ≤ 60
        · rw [if_pos c4]
          have l2 := dig_lt c4.1
          refine ⟨by show p + 2 ≤ T.1; omega, Or.inr (Or.inr ⟨?_, c4.2⟩), fun z => ?_⟩
          · show 0 ≤ 10 * dig T p + dig T (p + 1); omega
          · have z : 10 * dig T p + dig T (p + 1) = 99 := z
            omega
        · rw [if_neg c4]
          exact ⟨by show p + 1 ≤ T.1; omega, Or.inl rfl, fun z => absurd (show (-9 : Int) = 99 from z) (by decide)⟩
      · rw [if_neg c3]
        exact ⟨hp, Or.inl rfl, fun z => absurd (show (-9 : Int) = 99 from z) (by decide)⟩
abbrev Rs : Type := Bool × Nat × (Nat → Nat → Int)
def rst (T : Tx) (s b : Nat) (σ : Rs) : Rs := if σ.1 = true then ((rc T (pvs σ.2.2 s b) σ.2.1).1, (rc T (pvs σ.2.2 s b) σ.2.1).2.1, if (rc T (pvs σ.2.2 s b) σ.2.1).1 = true then cset σ.2.2 s b (rc T (pvs σ.2.2 s b) σ.2.1).2.2 else σ.2.2) else σ
def rrow (T : Tx) (s : Nat) : Nat → Rs → Rs
  | 0, σ => σ
  | b + 1, σ => rst T s b (rrow T s b σ)
def rall (T : Tx) (B : Nat) : Nat → Rs
  | 0 => (true, 4, fun _ _ => -9)
  | s + 1 => rrow T s B (rall T B s)
theorem rst_bad {T : Tx} {s b : Nat} {σ : Rs} (h : σ.1 = false) : rst T s b σ = σ := by
  unfold rst
  rw [if_neg (by rw [h]; decide)]
theorem rst_good {T : Tx} {s b : Nat} {σ : Rs} (h : σ.1 = true) : rst T s b σ = ((rc T (pvs σ.2.2 s b) σ.2.1).1, (rc T (pvs σ.2.2 s b) σ.2.1).2.1, if (rc T (pvs σ.2.2 s b) σ.2.1).1 = true then cset σ.2.2 s b (rc T (pvs σ.2.2 s b) σ.2.1).2.2 else σ.2.2) := by
  unfold rst
  rw [if_pos h]
theorem rrow_stick {T : Tx} {s : Nat} {σ : Rs} {b : Nat} (h : (rrow T s b σ).1 = false) : ∀ n, rrow T s (b + n) σ = rrow T s b σ
  | 0 => rfl
  | n + 1 => by
    show rst T s (b + n) (rrow T s (b + n) σ) = _
    rw [rrow_stick h n]
    exact rst_bad h
theorem rall_stick {T : Tx} {B s : Nat} (h : (rall T B s).1 = false) : ∀ n, rall T B (s + n) = rall T B s
  | 0 => rfl
  | n + 1 => by
    show rrow T (s + n) B (rall T B (s + n)) = _
    rw [rall_stick h n]
    have := rrow_stick (T := T) (s := s + n) (σ := rall T B s) (b := 0) h B
    rw [Nat.zero_add] at this
    exact this
/-- what has been read so far is music -/
def RI (T : Tx) (s b : Nat) (σ : Rs) : Prop := σ.2.1 ≤ T.1 ∧ (∀ s' b', cOk (σ.2.2 s' b')) ∧ (∀ s' b', σ.2.2 s' b' = 99 → 0 < b' ∧ σ.2.2 s' (b' - 1) ≠ -9) ∧ ∀ s' b', (s < s' ∨ (s' = s ∧ b ≤ b')) → σ.2.2 s' b' = -9
theorem RI.step {T : Tx} {s b : Nat} {σ : Rs} (h : RI T s b σ) : RI T s (b + 1) (rst T s b σ) := by
  obtain ⟨h1, h2, h3, h4⟩ := h
  by_cases c : σ.1 = true
  · rw [rst_good c]
    obtain ⟨r1, r2, r3⟩ := rc_rng (T := T) (pv := pvs σ.2.2 s b) h1
    refine ⟨r1, ?_⟩
    show (∀ s' b', cOk ((if (rc T (pvs σ.2.2 s b) σ.2.1).1 = true then cset σ.2.2 s b (rc T (pvs σ.2.2 s b) σ.2.1).2.2 else σ.2.2) s' b')) ∧ (∀ s' b', (if (rc T (pvs σ.2.2 s b) σ.2.1).1 = true then cset σ.2.2 s b (rc T (pvs σ.2.2 s b) σ.2.1).2.2 else σ.2.2) s' b' = 99 → 0 < b' ∧ (if (rc T (pvs σ.2.2 s b) σ.2.1).1 = true then cset σ.2.2 s b (rc T (pvs σ.2.2 s b) σ.2.1).2.2 else σ.2.2) s' (b' - 1) ≠ -9) ∧ ∀ s' b', (s < s' ∨ (s' = s ∧ b + 1 ≤ b')) → (if (rc T (pvs σ.2.2 s b) σ.2.1).1 = true then cset σ.2.2 s b (rc T (pvs σ.2.2 s b) σ.2.1).2.2 else σ.2.2) s' b' = -9
    by_cases d : (rc T (pvs σ.2.2 s b) σ.2.1).1 = true
    · rw [if_pos d]
      generalize (rc T (pvs σ.2.2 s b) σ.2.1).2.2 = v at r2 r3
      have t : ∀ s' b', cset σ.2.2 s b v s' b' = if s' = s ∧ b' = b then v else σ.2.2 s' b' := fun _ _ => rfl
      refine ⟨fun s' b' => ?_, fun s' b' hz => ?_, fun s' b' hz => ?_⟩
      · rw [t]
        by_cases e : s' = s ∧ b' = b
        · rw [if_pos e]; exact r2
        · rw [if_neg e]; exact h2 s' b'
      · rw [t] at hz
        by_cases e : s' = s ∧ b' = b
        · rw [if_pos e] at hz
          have := r3 hz
          unfold pvs at this
          by_cases e0 : b = 0
          · rw [if_pos e0] at this; exact absurd rfl this
          · rw [if_neg e0] at this
            refine ⟨by omega, ?_⟩
            rw [t, if_neg (by omega), e.1, e.2]
            exact this
        · rw [if_neg e] at hz
          have q := h3 s' b' hz
          refine ⟨q.1, ?_⟩
          rw [t]
          by_cases e2 : s' = s ∧ b' - 1 = b
          · have := h4 s' b' (Or.inr ⟨e2.1, by omega⟩)
            omega
          · rw [if_neg e2]; exact q.2
      · rw [t, if_neg (by omega)]
        exact h4 s' b' (by omega)
    · rw [if_neg d]
      exact ⟨h2, h3, fun s' b' hz => h4 s' b' (by omega)⟩
  · rw [rst_bad (by simpa using c)]
    exact ⟨h1, h2, h3, fun s' b' hz => h4 s' b' (by omega)⟩
theorem RI.row {T : Tx} {s : Nat} {σ : Rs} (h : RI T s 0 σ) : ∀ b, RI T s b (rrow T s b σ)
  | 0 => h
  | b + 1 => (RI.row h b).step
theorem RI.all {T : Tx} (h : 4 ≤ T.1) (B : Nat) : ∀ s, RI T s 0 (rall T B s)
  | 0 => ⟨h, fun _ _ => Or.inl rfl, fun s' b' hz => absurd (show (-9 : Int) = 99 from hz) (by decide), fun _ _ _ => rfl⟩
  | s + 1 => by
    have := (RI.all h B s).row B
    exact ⟨this.1, this.2.1, this.2.2.1, fun s' b' hz => this.2.2.2 s' b' (by omega)⟩
def fE (j : Nat) : Int := if j < 2 then 12 else if j = 2 then 5 else if j = 3 then 3 else if j = 4 then 1 else 0
theorem fE_sa : ∀ j, j < 6 → sa_first.getD j 0 = iz (fE j) := by decide
theorem fE_ok (S B : Nat) (c : Nat → Nat → Int) : PgE (fE, S, B, c) := by
  unfold PgE
  show (1 ≤ fE 0 ∧ fE 0 ≤ 24) ∧ (1 ≤ fE 1 ∧ fE 1 ≤ 24) ∧ (1 ≤ fE 2 ∧ fE 2 ≤ 5) ∧ (0 ≤ fE 3 ∧ fE 3 ≤ 9) ∧ (0 ≤ fE 4 ∧ fE 4 ≤ 1) ∧ 0 ≤ fE 5 ∧ fE 5 ≤ 1
  decide
def hB (T : Tx) : Int := 10 * dig T 2 + dig T 3
def fin (T : Tx) : Rs := rall T (hB T).toNat (dig T 1).toNat
abbrev hOk (T : Tx) : Prop := sgn T 0 = 77 ∧ (1 ≤ dig T 1 ∧ dig T 1 ≤ 4) ∧ (0 ≤ dig T 2 ∧ dig T 2 ≤ 1) ∧ (0 ≤ dig T 3 ∧ 1 ≤ hB T ∧ hB T ≤ 16)
def rdE (T : Tx) : Int :=
  if ¬ sgn T 0 = 77 then 0 else if ¬ (1 ≤ dig T 1 ∧ dig T 1 ≤ 4) then 1 else if ¬ (0 ≤ dig T 2 ∧ dig T 2 ≤ 1) then 2 else if ¬ (0 ≤ dig T 3 ∧ 1 ≤ hB T ∧ hB T ≤ 16) then 3
  else if (fin T).1 = true ∧ (fin T).2.1 = T.1 then -9 else (((fin T).2.1 : Nat) : Int)
theorem rdE_ok {T : Tx} (h : hOk T) : rdE T = if (fin T).1 = true ∧ (fin T).2.1 = T.1 then -9 else (((fin T).2.1 : Nat) : Int) := by
  unfold rdE
  rw [if_neg (fun z => z h.1), if_neg (fun z => z h.2.1), if_neg (fun z => z h.2.2.1), if_neg (fun z => z h.2.2.2)]
theorem rdE_hOk {T : Tx} (h : rdE T = -9) : hOk T := by
  unfold rdE at h
  by_cases c1 : sgn T 0 = 77
  · rw [if_neg (fun z => z c1)] at h
    by_cases c2 : 1 ≤ dig T 1 ∧ dig T 1 ≤ 4
    · rw [if_neg (fun z => z c2)] at h
      by_cases c3 : 0 ≤ dig T 2 ∧ dig T 2 ≤ 1
      · rw [if_neg (fun z => z c3)] at h
        by_cases c4 : 0 ≤ dig T 3 ∧ 1 ≤ hB T ∧ hB T ≤ 16
        · exact ⟨c1, c2, c3, c4⟩
        · rw [if_pos c4] at h; exact absurd h (by decide)
      · rw [if_pos c3] at h; exact absurd h (by decide)
    · rw [if_pos c2] at h; exact absurd h (by decide)
  · rw [if_pos c1] at h; exact absurd h (by decide)
theorem hOk4 {T : Tx} (h : hOk T) : 4 ≤ T.1 := by
  have := dig_lt h.2.2.2.1
  omega
def rdP (T : Tx) : Pg := (fE, (dig T 1).toNat, (hB T).toNat, (fin T).2.2)
theorem rdP_Ok {T : Tx} (h : hOk T) : PgOk (rdP T) := by
  have hi : RI T (dig T 1).toNat 0 (fin T) := RI.all (hOk4 h) (hB T).toNat (dig T 1).toNat
  refine ⟨⟨⟨?_, ?_⟩, fE_ok _ _ _, fun s b _ _ => hi.2.1 s b⟩, fun s b _ _ hz => hi.2.2.1 s b hz⟩
  · show 1 ≤ (dig T 1).toNat ∧ (dig T 1).toNat ≤ 4
    have := h.2.1
    omega
  · show 1 ≤ (hB T).toNat ∧ (hB T).toNat ≤ 16
    have := h.2.2.2
    omega
theorem fin_le {T : Tx} (h : hOk T) : (fin T).2.1 ≤ T.1 := (RI.all (hOk4 h) (hB T).toNat (dig T 1).toNat).1
