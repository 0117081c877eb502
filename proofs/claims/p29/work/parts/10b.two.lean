/-! TWO OBJECTS: the second one's cells lie 400 further; they change places -/
def sgm (i : Nat) : Nat := if i < 302 then i + 400 else if 400 ≤ i ∧ i < 702 then i - 400 else i
theorem sgm2 (i : Nat) : sgm (sgm i) = i := by
  unfold sgm
  by_cases c : i < 302
  · rw [if_pos c, if_neg (by omega), if_pos (by omega)]; omega
  · rw [if_neg c]
    by_cases d : 400 ≤ i ∧ i < 702
    · rw [if_pos d, if_pos (by omega)]; omega
    · rw [if_neg d, if_neg c, if_neg d]
def sw (M : Mem) : Mem := fun i => M (sgm i)
theorem sw2 (M : Mem) : sw (sw M) = M := by
  funext i
  show M (sgm (sgm i)) = M i
  rw [sgm2]
theorem lq1_idf {A0 R : Type} {body : (A0 → Mem → Option R) → A0 → Mem → Option R} {res : R} {P : Nat → A0 → Mem → Prop} (h : ∀ (j : Nat) (k : A0 → Mem → Option R), (∀ (a0 : A0) (M : Mem), k a0 M = some res → P j a0 M) → ∀ (a0 : A0) (M : Mem), body k a0 M = some res → P (j + 1) a0 M) : ∀ (n : Nat) (a0 : A0) (M : Mem), lq1 body n a0 M = some res → P n a0 M
  | 0 => fun _ _ hf => nomatch (show (none : Option R) = some res from hf)
  | n + 1 => h n _ (lq1_idf h n)
theorem lq2_idf {A0 A1 R : Type} {body : (A0 → A1 → Mem → Option R) → A0 → A1 → Mem → Option R} {res : R} {P : Nat → A0 → A1 → Mem → Prop} (h : ∀ (j : Nat) (k : A0 → A1 → Mem → Option R), (∀ (a0 : A0) (a1 : A1) (M : Mem), k a0 a1 M = some res → P j a0 a1 M) → ∀ (a0 : A0) (a1 : A1) (M : Mem), body k a0 a1 M = some res → P (j + 1) a0 a1 M) : ∀ (n : Nat) (a0 : A0) (a1 : A1) (M : Mem), lq2 body n a0 a1 M = some res → P n a0 a1 M
  | 0 => fun _ _ _ hf => nomatch (show (none : Option R) = some res from hf)
  | n + 1 => h n _ (lq2_idf h n)
theorem lq3_idf {A0 A1 A2 R : Type} {body : (A0 → A1 → A2 → Mem → Option R) → A0 → A1 → A2 → Mem → Option R} {res : R} {P : Nat → A0 → A1 → A2 → Mem → Prop} (h : ∀ (j : Nat) (k : A0 → A1 → A2 → Mem → Option R), (∀ (a0 : A0) (a1 : A1) (a2 : A2) (M : Mem), k a0 a1 a2 M = some res → P j a0 a1 a2 M) → ∀ (a0 : A0) (a1 : A1) (a2 : A2) (M : Mem), body k a0 a1 a2 M = some res → P (j + 1) a0 a1 a2 M) : ∀ (n : Nat) (a0 : A0) (a1 : A1) (a2 : A2) (M : Mem), lq3 body n a0 a1 a2 M = some res → P n a0 a1 a2 M
  | 0 => fun _ _ _ _ hf => nomatch (show (none : Option R) = some res from hf)
  | n + 1 => h n _ (lq3_idf h n)
theorem lq4_idf {A0 A1 A2 A3 R : Type} {body : (A0 → A1 → A2 → A3 → Mem → Option R) → A0 → A1 → A2 → A3 → Mem → Option R} {res : R} {P : Nat → A0 → A1 → A2 → A3 → Mem → Prop} (h : ∀ (j : Nat) (k : A0 → A1 → A2 → A3 → Mem → Option R), (∀ (a0 : A0) (a1 : A1) (a2 : A2) (a3 : A3) (M : Mem), k a0 a1 a2 a3 M = some res → P j a0 a1 a2 a3 M) → ∀ (a0 : A0) (a1 : A1) (a2 : A2) (a3 : A3) (M : Mem), body k a0 a1 a2 a3 M = some res → P (j + 1) a0 a1 a2 a3 M) : ∀ (n : Nat) (a0 : A0) (a1 : A1) (a2 : A2) (a3 : A3) (M : Mem), lq4 body n a0 a1 a2 a3 M = some res → P n a0 a1 a2 a3 M
  | 0 => fun _ _ _ _ _ hf => nomatch (show (none : Option R) = some res from hf)
  | n + 1 => h n _ (lq4_idf h n)
theorem lq5_idf {A0 A1 A2 A3 A4 R : Type} {body : (A0 → A1 → A2 → A3 → A4 → Mem → Option R) → A0 → A1 → A2 → A3 → A4 → Mem → Option R} {res : R} {P : Nat → A0 → A1 → A2 → A3 → A4 → Mem → Prop} (h : ∀ (j : Nat) (k : A0 → A1 → A2 → A3 → A4 → Mem → Option R), (∀ (a0 : A0) (a1 : A1) (a2 : A2) (a3 : A3) (a4 : A4) (M : Mem), k a0 a1 a2 a3 a4 M = some res → P j a0 a1 a2 a3 a4 M) → ∀ (a0 : A0) (a1 : A1) (a2 : A2) (a3 : A3) (a4 : A4) (M : Mem), body k a0 a1 a2 a3 a4 M = some res → P (j + 1) a0 a1 a2 a3 a4 M) : ∀ (n : Nat) (a0 : A0) (a1 : A1) (a2 : A2) (a3 : A3) (a4 : A4) (M : Mem), lq5 body n a0 a1 a2 a3 a4 M = some res → P n a0 a1 a2 a3 a4 M
  | 0 => fun _ _ _ _ _ _ hf => nomatch (show (none : Option R) = some res from hf)
  | n + 1 => h n _ (lq5_idf h n)
theorem lq6_idf {A0 A1 A2 A3 A4 A5 R : Type} {body : (A0 → A1 → A2 → A3 → A4 → A5 → Mem → Option R) → A0 → A1 → A2 → A3 → A4 → A5 → Mem → Option R} {res : R} {P : Nat → A0 → A1 → A2 → A3 → A4 → A5 → Mem → Prop} (h : ∀ (j : Nat) (k : A0 → A1 → A2 → A3 → A4 → A5 → Mem → Option R), (∀ (a0 : A0) (a1 : A1) (a2 : A2) (a3 : A3) (a4 : A4) (a5 : A5) (M : Mem), k a0 a1 a2 a3 a4 a5 M = some res → P j a0 a1 a2 a3 a4 a5 M) → ∀ (a0 : A0) (a1 : A1) (a2 : A2) (a3 : A3) (a4 : A4) (a5 : A5) (M : Mem), body k a0 a1 a2 a3 a4 a5 M = some res → P (j + 1) a0 a1 a2 a3 a4 a5 M) : ∀ (n : Nat) (a0 : A0) (a1 : A1) (a2 : A2) (a3 : A3) (a4 : A4) (a5 : A5) (M : Mem), lq6 body n a0 a1 a2 a3 a4 a5 M = some res → P n a0 a1 a2 a3 a4 a5 M
  | 0 => fun _ _ _ _ _ _ _ hf => nomatch (show (none : Option R) = some res from hf)
  | n + 1 => h n _ (lq6_idf h n)
theorem lq7_idf {A0 A1 A2 A3 A4 A5 A6 R : Type} {body : (A0 → A1 → A2 → A3 → A4 → A5 → A6 → Mem → Option R) → A0 → A1 → A2 → A3 → A4 → A5 → A6 → Mem → Option R} {res : R} {P : Nat → A0 → A1 → A2 → A3 → A4 → A5 → A6 → Mem → Prop} (h : ∀ (j : Nat) (k : A0 → A1 → A2 → A3 → A4 → A5 → A6 → Mem → Option R), (∀ (a0 : A0) (a1 : A1) (a2 : A2) (a3 : A3) (a4 : A4) (a5 : A5) (a6 : A6) (M : Mem), k a0 a1 a2 a3 a4 a5 a6 M = some res → P j a0 a1 a2 a3 a4 a5 a6 M) → ∀ (a0 : A0) (a1 : A1) (a2 : A2) (a3 : A3) (a4 : A4) (a5 : A5) (a6 : A6) (M : Mem), body k a0 a1 a2 a3 a4 a5 a6 M = some res → P (j + 1) a0 a1 a2 a3 a4 a5 a6 M) : ∀ (n : Nat) (a0 : A0) (a1 : A1) (a2 : A2) (a3 : A3) (a4 : A4) (a5 : A5) (a6 : A6) (M : Mem), lq7 body n a0 a1 a2 a3 a4 a5 a6 M = some res → P n a0 a1 a2 a3 a4 a5 a6 M
  | 0 => fun _ _ _ _ _ _ _ _ hf => nomatch (show (none : Option R) = some res from hf)
  | n + 1 => h n _ (lq7_idf h n)
theorem lq8_idf {A0 A1 A2 A3 A4 A5 A6 A7 R : Type} {body : (A0 → A1 → A2 → A3 → A4 → A5 → A6 → A7 → Mem → Option R) → A0 → A1 → A2 → A3 → A4 → A5 → A6 → A7 → Mem → Option R} {res : R} {P : Nat → A0 → A1 → A2 → A3 → A4 → A5 → A6 → A7 → Mem → Prop} (h : ∀ (j : Nat) (k : A0 → A1 → A2 → A3 → A4 → A5 → A6 → A7 → Mem → Option R), (∀ (a0 : A0) (a1 : A1) (a2 : A2) (a3 : A3) (a4 : A4) (a5 : A5) (a6 : A6) (a7 : A7) (M : Mem), k a0 a1 a2 a3 a4 a5 a6 a7 M = some res → P j a0 a1 a2 a3 a4 a5 a6 a7 M) → ∀ (a0 : A0) (a1 : A1) (a2 : A2) (a3 : A3) (a4 : A4) (a5 : A5) (a6 : A6) (a7 : A7) (M : Mem), body k a0 a1 a2 a3 a4 a5 a6 a7 M = some res → P (j + 1) a0 a1 a2 a3 a4 a5 a6 a7 M) : ∀ (n : Nat) (a0 : A0) (a1 : A1) (a2 : A2) (a3 : A3) (a4 : A4) (a5 : A5) (a6 : A6) (a7 : A7) (M : Mem), lq8 body n a0 a1 a2 a3 a4 a5 a6 a7 M = some res → P n a0 a1 a2 a3 a4 a5 a6 a7 M
  | 0 => fun _ _ _ _ _ _ _ _ _ hf => nomatch (show (none : Option R) = some res from hf)
  | n + 1 => h n _ (lq8_idf h n)
